def W_X11_promise (ad : Nat → Nat) (Q : Int → MM → Prop) (X : String → MM → Prop) (av : List Value) (M : MM) : Prop := av = [.ref (ad 0)] ∧ w_X11_promise  Q X  M
set_option maxHeartbeats 4000000 in
set_option maxRecDepth 100000 in
theorem k_X11_promise_b105 {l : Launch} {D : va_G} {cy : Nat → ClassId} {ad : Nat → Nat} {Q : Int → MM → Prop} {X : String → MM → Prop} {J : Nat → List (Nat × Value) → List Value → MM → Prop} (hst : l.stackTraces = false) (hin : jIn ad ksC.length)   (hJ : jOk l D vwCl (tyC cy) cy ad ftC ksC (XtC ad) Om RX11 cX11_promise 3 1 ({ frames := 306, cells := 1, slots := 6, locals := 7353 } : Room) Q J) (hT : jTh RX11 cX11_promise Om ({ frames := 306, cells := 1, slots := 6, locals := 7353 } : Room) ["java/lang/IllegalArgumentException", "java/lang/IllegalStateException"] X J)  : ∀ (s0 s1 : Int) (M : MM), ri_ s0 → ri_ s1 → w_X11_promise_b105  Q X  s0 s1 M → J 105 [(0, .ref (ad 0))] [.int (Ii s0), .int (Ii s1), .ref (ad 260)] M := by
  intro s0 s1 M gs0 gs1 hF
  unfold w_X11_promise_b105 at hF
  refine j_iast hJ gs1 gs0 kC_260 hF.1 hF.2.1 dX11_promise_105 (fun M1 eM1 => ?_)
  have hF := hF.2.2 M1 eM1
  refine j_aload_n hJ dX11_promise_106 rfl 0 rfl ?_
  refine j_dup hJ dX11_promise_107 rfl ?_
  refine j_gi hJ kC_0 fC_14_10 rfl fl_X11_327 dX11_promise_108 (fun v2 ev2 gv2 => ?_)
  have hF := hF v2 ev2 gv2
  refine j_iconst hJ dX11_promise_111 ?_
  refine j_iadd hJ dX11_promise_112 ?_
  have g3 := hF.1; have hF := hF.2
  refine j_pi hJ g3 kC_0 fC_14_10 rfl fp_X11_327 dX11_promise_113 (fun M4 eM4 => ?_)
  have hF := hF M4 eM4
  refine j_aload_n hJ dX11_promise_116 rfl 0 rfl ?_
  refine j_gi hJ kC_0 fC_14_10 rfl fl_X11_327 dX11_promise_117 (fun v5 ev5 gv5 => ?_)
  have hF := hF v5 ev5 gv5
  refine j_iconst hJ dX11_promise_120 ?_
  refine j_isub hJ dX11_promise_121 ?_
  have g6 := hF.1; have hF := hF.2
  exact j_iret hJ rfl g6 dX11_promise_122 hF
set_option maxHeartbeats 4000000 in
set_option maxRecDepth 100000 in
theorem k_X11_promise_b104 {l : Launch} {D : va_G} {cy : Nat → ClassId} {ad : Nat → Nat} {Q : Int → MM → Prop} {X : String → MM → Prop} {J : Nat → List (Nat × Value) → List Value → MM → Prop} (hst : l.stackTraces = false) (hin : jIn ad ksC.length)   (hJ : jOk l D vwCl (tyC cy) cy ad ftC ksC (XtC ad) Om RX11 cX11_promise 3 1 ({ frames := 306, cells := 1, slots := 6, locals := 7353 } : Room) Q J) (hT : jTh RX11 cX11_promise Om ({ frames := 306, cells := 1, slots := 6, locals := 7353 } : Room) ["java/lang/IllegalArgumentException", "java/lang/IllegalStateException"] X J)  : ∀ (s0 : Int) (M : MM), ri_ s0 → w_X11_promise_b104  Q X  s0 M → J 104 [(0, .ref (ad 0))] [.int (Ii s0), .ref (ad 260)] M := by
  intro s0 M gs0 hF
  unfold w_X11_promise_b104 at hF
  refine j_iconst hJ dX11_promise_104 ?_
  exact j_sub hJ [0] rfl (k_X11_promise_b105 hst hin  hJ hT  (-1) s0 _ rk_m1 gs0 hF)
set_option maxHeartbeats 4000000 in
set_option maxRecDepth 100000 in
theorem c_X11_promise {l : Launch} {D : va_G} {cy : Nat → ClassId} {ad : Nat → Nat} (hst : l.stackTraces = false) (hin : jIn ad ksC.length) : jXN l D vwCl (tyC cy) cy ad ftC ksC (XtC ad) yX11_promise (.code yX11_promise cX11_promise 3 (some .int) :: Om) ({ frames := 306, cells := 1, slots := 6, locals := 7353 } : Room) 1 1 6 ["java/lang/IllegalArgumentException", "java/lang/IllegalStateException"] (W_X11_promise ad) := by
  refine jXN_of (y := yX11_promise) (cc := cX11_promise) (nL := 3) (rk := 1) (rm := ({ frames := 306, cells := 1, slots := 6, locals := 7353 } : Room)) (own := RX11) 0 ["java/lang/IllegalArgumentException", "java/lang/IllegalStateException"] hst (XtC_z ad) (tyC_ok cy) hin (XtC_ok ad) Om_good (by decide) rfl ⟨rfl, rfl⟩ ?_
  intro Q X av M hF
  obtain ⟨rfl, hF⟩ := hF
  refine ⟨Nat.le_of_ble_eq_true rfl, fun J hJ hT hC => ?_⟩
  have hJ0 := hJ 0 (by decide)
  have hT0 := hT 0 (by decide)
  show J 0 0 [(0, .ref (ad 0))] [] M
  unfold w_X11_promise at hF
  refine j_aload_n hJ0 dX11_promise_0 rfl 0 rfl ?_
  refine j_gi hJ0 kC_0 fC_14_10 rfl fl_X11_327 dX11_promise_1 (fun v1 ev1 gv1 => ?_)
  have hF := hF v1 ev1 gv1
  refine j_iconst hJ0 dX11_promise_4 ?_
  refine j_icmp_ne hJ0 16 gv1 rk_3 dX11_promise_5 (by decide) (fun z2 => ?_) (fun z2 => ?_)
  · have hF := hF.1 z2
    refine j_aload_n hJ0 dX11_promise_16 rfl 0 rfl ?_
    refine j_ga hJ0 kC_0 fC_14_8 fl_X11_66 dX11_promise_17 ?_
    refine j_aload_n hJ0 dX11_promise_20 rfl 0 rfl ?_
    refine j_gi hJ0 kC_0 fC_14_10 rfl fl_X11_327 dX11_promise_21 (fun v3 ev3 gv3 => ?_)
    have hF := hF v3 ev3 gv3
    obtain ⟨h0_, h1_, c4, ec4, hc4, hF⟩ := hF
    refine j_aald5 hJ0 gv3 kC_235 rfl h0_ h1_ ec4 dX11_promise_24 ?_
    refine j_astore_n (lv' := [(1, .ref (ad c4)), (0, .ref (ad 0))]) hJ0 dX11_promise_25 rfl (by decide) rfl ?_
    refine j_aload_n hJ0 dX11_promise_26 rfl 0 rfl ?_
    refine j_callVz hJ0 (c_X6_readPromise (l := l) (D := D) (cy := cy) (ad := ad) hin) rfl om_904 ⟨rfl, rfl, Nat.le_of_ble_eq_true rfl, Nat.le_of_ble_eq_true rfl⟩ [] mv_X11_330 hd_X6_readPromisev (kG_0 hc4) rfl rfl rfl (Nat.le_of_ble_eq_true rfl) dX11_promise_27 ⟨c4, rfl, hc4, hF⟩ (fun r5 M6 gr5 qM6 => ?_)
    have hF := qM6 gr5
    refine j_istore_n (lv' := [(2, .int (Ii r5)), (1, .ref (ad c4)), (0, .ref (ad 0))]) hJ0 dX11_promise_30 rfl (by decide) rfl ?_
    refine j_aload_n hJ0 dX11_promise_31 rfl 2 rfl ?_
    refine j_aload_n hJ0 dX11_promise_32 rfl 1 rfl ?_
    refine j_gi hJ0 (kG_0 hc4) fC_9_6 rfl fl_X11_334 dX11_promise_33 (fun v7 ev7 gv7 => ?_)
    have hF := hF v7 ev7 gv7
    refine j_aload_n hJ0 dX11_promise_36 rfl 1 rfl ?_
    refine j_gi hJ0 (kG_0 hc4) fC_9_7 rfl fl_X11_337 dX11_promise_37 (fun v8 ev8 gv8 => ?_)
    have hF := hF v8 ev8 gv8
    refine j_callVv hJ0 (c_X11_tellFault (l := l) (D := D) (cy := cy) (ad := ad) hin) rfl om_908 ⟨rfl, rfl, Nat.le_of_ble_eq_true rfl, Nat.le_of_ble_eq_true rfl⟩ [.int (Ii v7), .int (Ii v8)] mv_X11_340 hd_X11_tellFaultv kC_0 rfl rfl rfl (Nat.le_of_ble_eq_true rfl) dX11_promise_40 ⟨v7, v8, rfl, gv7, gv8, hF⟩ (fun M10 qM10 => ?_)
    have hF := qM10
    refine j_iload_n hJ0 dX11_promise_43 rfl 0 rfl ?_
    refine j_if_ne hJ0 55 (jz_ri gr5) dX11_promise_44 (by decide) (fun z11 => ?_) (fun z11 => ?_)
    · have hF := hF.1 z11
      refine j_aload_n hJ0 dX11_promise_55 rfl 2 rfl ?_
      obtain ⟨c12, ec12, hc12, hF⟩ := hF
      refine j_gq hJ0 kC_0 fC_14_5 rfl fl_X11_46 dX11_promise_56 ec12 ?_
      refine j_aload_n hJ0 dX11_promise_59 rfl 2 rfl ?_
      refine j_ga hJ0 kC_0 fC_14_2 fl_X11_28 dX11_promise_60 ?_
      refine j_callVv hJ0 (c_X5_takeFrom (l := l) (D := D) (cy := cy) (ad := ad) hin) rfl om_846 ⟨rfl, rfl, Nat.le_of_ble_eq_true rfl, Nat.le_of_ble_eq_true rfl⟩ [.ref (ad 26)] mv_X11_343 hd_X5_takeFromv (kP_0 hc12) rfl rfl rfl (Nat.le_of_ble_eq_true rfl) dX11_promise_63 ⟨c12, rfl, hc12, hF⟩ (fun M14 qM14 => ?_)
      have hF := qM14
      refine j_aload_n hJ0 dX11_promise_66 rfl 2 rfl ?_
      refine j_ga hJ0 kC_0 fC_14_9 fl_X11_70 dX11_promise_67 ?_
      refine j_aload_n hJ0 dX11_promise_70 rfl 2 rfl ?_
      refine j_gi hJ0 kC_0 fC_14_10 rfl fl_X11_327 dX11_promise_71 (fun v15 ev15 gv15 => ?_)
      have hF := hF v15 ev15 gv15
      refine j_aload_n hJ0 dX11_promise_74 rfl 2 rfl ?_
      refine j_ga hJ0 kC_0 fC_14_7 fl_X11_62 dX11_promise_75 ?_
      refine j_aload_n hJ0 dX11_promise_78 rfl 1 rfl ?_
      refine j_aload_n hJ0 dX11_promise_79 rfl 2 rfl ?_
      obtain ⟨c16, ec16, hc16, hF⟩ := hF
      refine j_gq hJ0 kC_0 fC_14_5 rfl fl_X11_46 dX11_promise_80 ec16 ?_
      refine j_callVz hJ0 (c_X4_run (l := l) (D := D) (cy := cy) (ad := ad) hin) rfl om_838 ⟨rfl, rfl, Nat.le_of_ble_eq_true rfl, Nat.le_of_ble_eq_true rfl⟩ [.ref (ad c4), .ref (ad c16)] mv_X11_347 hd_X4_runv kC_219 rfl rfl rfl (Nat.le_of_ble_eq_true rfl) dX11_promise_83 ⟨c4, c16, rfl, hc4, hc16, hF⟩ (fun r17 M18 gr17 qM18 => ?_)
      have hF := qM18 gr17
      refine j_if_eq hJ0 104 (jz_ri gr17) dX11_promise_86 (by decide) (fun z19 => ?_) (fun z19 => ?_)
      · have hF := hF.1 z19
        exact j_sub hJ0 [2] rfl (k_X11_promise_b104 hst hin  hJ0 hT0  v15 _ gv15 hF)
      · have hF := hF.2 z19
        refine j_aload_n hJ0 dX11_promise_89 rfl 2 rfl ?_
        refine j_ga hJ0 kC_0 fC_14_7 fl_X11_62 dX11_promise_90 ?_
        refine j_callVz hJ0 (c_X4_saysTrue (l := l) (D := D) (cy := cy) (ad := ad) hin) rfl om_842 ⟨rfl, rfl, Nat.le_of_ble_eq_true rfl, Nat.le_of_ble_eq_true rfl⟩ [] mv_X11_351 hd_X4_saysTruev kC_219 rfl rfl rfl (Nat.le_of_ble_eq_true rfl) dX11_promise_93 ⟨rfl, hF⟩ (fun r20 M21 gr20 qM21 => ?_)
        have hF := qM21 gr20
        refine j_if_eq hJ0 104 (jz_ri gr20) dX11_promise_96 (by decide) (fun z22 => ?_) (fun z22 => ?_)
        · have hF := hF.1 z22
          exact j_sub hJ0 [2] rfl (k_X11_promise_b104 hst hin  hJ0 hT0  v15 _ gv15 hF)
        · have hF := hF.2 z22
          refine j_bipush hJ0 dX11_promise_99 (by decide) ?_
          refine j_goto hJ0 105 dX11_promise_101 (by decide) ?_
          exact j_sub hJ0 [2] rfl (k_X11_promise_b105 hst hin  hJ0 hT0  (-2) v15 _ rk_m2 gv15 hF)
    · have hF := hF.2 z11
      exact hT0 _ _ _ _ _ _ _ (by decide) (tw_X11_127_129 (Nat.le_of_ble_eq_true rfl) (Nat.le_of_ble_eq_true rfl)) dX11_promise_47 dX11_promise_50 dX11_promise_51 dX11_promise_54 hF
  · have hF := hF.2 z2
    exact hT0 _ _ _ _ _ _ _ (by decide) (tw_X11_137_139 (Nat.le_of_ble_eq_true rfl) (Nat.le_of_ble_eq_true rfl)) dX11_promise_8 dX11_promise_11 dX11_promise_12 dX11_promise_15 hF
def W_X11_broken (ad : Nat → Nat) (Q : Int → MM → Prop) (X : String → MM → Prop) (av : List Value) (M : MM) : Prop := ∃ (p1 : Int), av = [.ref (ad 0), .int (Ii p1)] ∧ ri_ p1 ∧ w_X11_broken  Q X p1 M
set_option maxHeartbeats 4000000 in
set_option maxRecDepth 100000 in
theorem k_X11_broken_b12 {l : Launch} {D : va_G} {cy : Nat → ClassId} {ad : Nat → Nat} {Q : Int → MM → Prop} {X : String → MM → Prop} {J : Nat → List (Nat × Value) → List Value → MM → Prop} (hst : l.stackTraces = false) (hin : jIn ad ksC.length)   (hJ : jOk l D vwCl (tyC cy) cy ad ftC ksC (XtC ad) Om RX11 cX11_broken 2 1 ({ frames := 9, cells := 1, slots := 6, locals := 140 } : Room) Q J) (hT : jTh RX11 cX11_broken Om ({ frames := 9, cells := 1, slots := 6, locals := 140 } : Room) ["java/util/NoSuchElementException"] X J)  : ∀ (M : MM), w_X11_broken_b12  Q X   M → J 12 [] [] M := by
  intro  M  hF
  unfold w_X11_broken_b12 at hF
  exact hT _ _ _ _ _ _ _ (by decide) (tw_X11_222_224 (Nat.le_of_ble_eq_true rfl) (Nat.le_of_ble_eq_true rfl)) dX11_broken_12 dX11_broken_15 dX11_broken_16 dX11_broken_19 hF
set_option maxHeartbeats 4000000 in
set_option maxRecDepth 100000 in
theorem c_X11_broken {l : Launch} {D : va_G} {cy : Nat → ClassId} {ad : Nat → Nat} (hst : l.stackTraces = false) (hin : jIn ad ksC.length) : jXN l D vwCl (tyC cy) cy ad ftC ksC (XtC ad) yX11_broken (.code yX11_broken cX11_broken 2 (some .int) :: Om) ({ frames := 9, cells := 1, slots := 6, locals := 140 } : Room) 1 1 6 ["java/util/NoSuchElementException"] (W_X11_broken ad) := by
  refine jXN_of (y := yX11_broken) (cc := cX11_broken) (nL := 2) (rk := 1) (rm := ({ frames := 9, cells := 1, slots := 6, locals := 140 } : Room)) (own := RX11) 0 ["java/util/NoSuchElementException"] hst (XtC_z ad) (tyC_ok cy) hin (XtC_ok ad) Om_good (by decide) rfl ⟨rfl, rfl⟩ ?_
  intro Q X av M hF
  obtain ⟨p1, rfl, gp1, hF⟩ := hF
  refine ⟨Nat.le_of_ble_eq_true rfl, fun J hJ hT hC => ?_⟩
  have hJ0 := hJ 0 (by decide)
  have hT0 := hT 0 (by decide)
  show J 0 0 [(0, .ref (ad 0)), (1, .int (Ii p1))] [] M
  unfold w_X11_broken at hF
  refine j_iload_n hJ0 dX11_broken_0 rfl 1 rfl ?_
  refine j_if_lt hJ0 12 gp1 dX11_broken_1 (by decide) (fun z1 => ?_) (fun z1 => ?_)
  · have hF := hF.1 z1
    exact j_sub hJ0 [] rfl (k_X11_broken_b12 hst hin  hJ0 hT0   _  hF)
  · have hF := hF.2 z1
    refine j_iload_n hJ0 dX11_broken_4 rfl 1 rfl ?_
    refine j_aload_n hJ0 dX11_broken_5 rfl 0 rfl ?_
    refine j_gi hJ0 kC_0 fC_14_10 rfl fl_X11_327 dX11_broken_6 (fun v2 ev2 gv2 => ?_)
    have hF := hF v2 ev2 gv2
    refine j_icmp_lt hJ0 20 gp1 gv2 dX11_broken_9 (by decide) (fun z3 => ?_) (fun z3 => ?_)
    · have hF := hF.1 z3
      refine j_aload_n hJ0 dX11_broken_20 rfl 0 rfl ?_
      refine j_ga hJ0 kC_0 fC_14_9 fl_X11_70 dX11_broken_21 ?_
      refine j_iload_n hJ0 dX11_broken_24 rfl 1 rfl ?_
      refine j_iald hJ0 gp1 kC_260 hF.1 hF.2.1 dX11_broken_25 (fun v4 ev4 gv4 => ?_)
      have hF := hF.2.2 v4 ev4 gv4
      exact j_iret hJ0 rfl gv4 dX11_broken_26 hF
    · have hF := hF.2 z3
      exact j_sub hJ0 [] rfl (k_X11_broken_b12 hst hin  hJ0 hT0   _  hF)
def W_X11_isPicture (ad : Nat → Nat) (Q : Int → MM → Prop) (av : List Value) (M : MM) : Prop := ∃ (p1 : Int), av = [.int (Ii p1)] ∧ ri_ p1 ∧ w_X11_isPicture  Q p1 M
set_option maxHeartbeats 4000000 in
set_option maxRecDepth 100000 in
theorem c_X11_isPicture {l : Launch} {D : va_G} {cy : Nat → ClassId} {ad : Nat → Nat} (hin : jIn ad ksC.length) : jCN l D vwCl (tyC cy) cy ad ftC ksC (XtC ad) yX11_isPicture (.code yX11_isPicture cX11_isPicture 1 (some .boolean) :: Om) ({ frames := 0, cells := 0, slots := 0, locals := 0 } : Room) 3 (W_X11_isPicture ad) := by
  refine jCN_of (y := yX11_isPicture) (cc := cX11_isPicture) (nL := 1) (rk := 3) (rm := ({ frames := 0, cells := 0, slots := 0, locals := 0 } : Room)) (own := RX11) (tyC_ok cy) hin (XtC_ok ad) Om_good (by decide) rfl ?_
  intro Q av M hF
  obtain ⟨p1, rfl, gp1, hF⟩ := hF
  refine ⟨Nat.le_of_ble_eq_true rfl, fun J hJ => ?_⟩
  show J 0 [(0, .int (Ii p1))] [] M
  unfold w_X11_isPicture at hF
  refine j_iload_n hJ dX11_isPicture_0 rfl 0 rfl ?_
  refine j_if_lt hJ 13 gp1 dX11_isPicture_1 (by decide) (fun z1 => ?_) (fun z1 => ?_)
  · have hF := hF.1 z1
    refine j_iconst hJ dX11_isPicture_13 ?_
    exact j_zret hJ rfl (by decide) dX11_isPicture_14 hF
  · have hF := hF.2 z1
    refine j_iload_n hJ dX11_isPicture_4 rfl 0 rfl ?_
    refine j_iconst hJ dX11_isPicture_5 ?_
    refine j_icmp_ge hJ 13 gp1 rk_4 dX11_isPicture_6 (by decide) (fun z2 => ?_) (fun z2 => ?_)
    · have hF := hF.1 z2
      refine j_iconst hJ dX11_isPicture_13 ?_
      exact j_zret hJ rfl (by decide) dX11_isPicture_14 hF
    · have hF := hF.2 z2
      refine j_iconst hJ dX11_isPicture_9 ?_
      refine j_goto hJ 14 dX11_isPicture_10 (by decide) ?_
      exact j_zret hJ rfl (by decide) dX11_isPicture_14 hF
def W_X11_needPicture (ad : Nat → Nat) (Q : Int → MM → Prop) (X : String → MM → Prop) (av : List Value) (M : MM) : Prop := ∃ (p1 : Int), av = [.int (Ii p1)] ∧ ri_ p1 ∧ w_X11_needPicture  Q X p1 M
set_option maxHeartbeats 4000000 in
set_option maxRecDepth 100000 in
theorem c_X11_needPicture {l : Launch} {D : va_G} {cy : Nat → ClassId} {ad : Nat → Nat} (hst : l.stackTraces = false) (hin : jIn ad ksC.length) : jXN l D vwCl (tyC cy) cy ad ftC ksC (XtC ad) yX11_needPicture (.code yX11_needPicture cX11_needPicture 1 none :: Om) ({ frames := 9, cells := 1, slots := 6, locals := 140 } : Room) 0 1 6 ["java/lang/IndexOutOfBoundsException"] (W_X11_needPicture ad) := by
  refine jXN_of (y := yX11_needPicture) (cc := cX11_needPicture) (nL := 1) (rk := 0) (rm := ({ frames := 9, cells := 1, slots := 6, locals := 140 } : Room)) (own := RX11) 0 ["java/lang/IndexOutOfBoundsException"] hst (XtC_z ad) (tyC_ok cy) hin (XtC_ok ad) Om_good (by decide) rfl ⟨rfl, rfl⟩ ?_
  intro Q X av M hF
  obtain ⟨p1, rfl, gp1, hF⟩ := hF
  refine ⟨Nat.le_of_ble_eq_true rfl, fun J hJ hT hC => ?_⟩
  have hJ0 := hJ 0 (by decide)
  have hT0 := hT 0 (by decide)
  show J 0 0 [(0, .int (Ii p1))] [] M
  unfold w_X11_needPicture at hF
  refine j_iload_n hJ0 dX11_needPicture_0 rfl 0 rfl ?_
  refine j_callSz hJ0 (c_X11_isPicture (l := l) (D := D) (cy := cy) (ad := ad) hin) rfl om_912 ⟨rfl, rfl, Nat.le_of_ble_eq_true rfl, Nat.le_of_ble_eq_true rfl⟩ [.int (Ii p1)] mv_X11_412 hd_X11_isPicture rfl (Nat.le_of_ble_eq_true rfl) dX11_needPicture_1 ⟨p1, rfl, gp1, hF⟩ (fun r1 M2 gr1 qM2 => ?_)
  have hF := qM2 gr1
  refine j_if_ne hJ0 15 (jz_ri gr1) dX11_needPicture_4 (by decide) (fun z3 => ?_) (fun z3 => ?_)
  · have hF := hF.1 z3
    exact j_vret hJ0 rfl dX11_needPicture_15 hF
  · have hF := hF.2 z3
    exact hT0 _ _ _ _ _ _ _ (by decide) (tw_X11_120_122 (Nat.le_of_ble_eq_true rfl) (Nat.le_of_ble_eq_true rfl)) dX11_needPicture_7 dX11_needPicture_10 dX11_needPicture_11 dX11_needPicture_14 hF
def W_X11_take (ad : Nat → Nat) (Q : Int → MM → Prop) (X : String → MM → Prop) (av : List Value) (M : MM) : Prop := ∃ (p1 : Int), av = [.ref (ad 0), .int (Ii p1)] ∧ ri_ p1 ∧ w_X11_take  Q X p1 M
set_option maxHeartbeats 4000000 in
set_option maxRecDepth 100000 in
theorem c_X11_take {l : Launch} {D : va_G} {cy : Nat → ClassId} {ad : Nat → Nat} (hst : l.stackTraces = false) (hin : jIn ad ksC.length) : jXN l D vwCl (tyC cy) cy ad ftC ksC (XtC ad) yX11_take (.code yX11_take cX11_take 2 (some .int) :: Om) ({ frames := 10, cells := 2, slots := 12, locals := 160 } : Room) 1 2 12 ["java/lang/IndexOutOfBoundsException"] (W_X11_take ad) := by
  refine jXN_of (y := yX11_take) (cc := cX11_take) (nL := 2) (rk := 1) (rm := ({ frames := 10, cells := 2, slots := 12, locals := 160 } : Room)) (own := RX11) 1 ["java/lang/IndexOutOfBoundsException"] hst (XtC_z ad) (tyC_ok cy) hin (XtC_ok ad) Om_good (by decide) rfl ⟨rfl, rfl⟩ ?_
  intro Q X av M hF
  obtain ⟨p1, rfl, gp1, hF⟩ := hF
  refine ⟨Nat.le_of_ble_eq_true rfl, fun J hJ hT hC => ?_⟩
  have hJ0 := hJ 0 (by decide)
  have hT0 := hT 0 (by decide)
  have hJ1 := hJ 1 (by decide)
  have hT1 := hT 1 (by decide)
  have hC0 := hC 0 (by decide)
  show J 0 0 [(0, .ref (ad 0)), (1, .int (Ii p1))] [] M
  unfold w_X11_take at hF
  refine j_iload_n hJ0 dX11_take_0 rfl 1 rfl ?_
  refine hC0 _ _ _ _ _ _ _ _ _ _ _ X [.int (Ii p1)] _ _ _ (c_X11_needPicture (l := l) (D := D) (cy := cy) (ad := ad) hst hin) rfl om_915 ⟨rfl, rfl, Nat.le_of_ble_eq_true rfl, Nat.le_of_ble_eq_true rfl⟩ mv_X11_354 hd_X11_needPicture rfl (Nat.le_of_ble_eq_true rfl) dX11_take_1 ⟨p1, rfl, gp1, hF⟩ (fun E M1 h8 h9 => ⟨by rw [List.mem_singleton.mp h8]; decide, h9⟩) (fun M1 qM1 => ?_)
  have hF := qM1
  refine j_aload_n hJ1 dX11_take_4 rfl 0 rfl ?_
  refine j_ga hJ1 kC_0 fC_14_4 fl_X11_41 dX11_take_5 ?_
  refine j_iload_n hJ1 dX11_take_8 rfl 1 rfl ?_
  obtain ⟨h0_, h1_, c2, ec2, hc2, hF⟩ := hF
  refine j_aald4 hJ1 gp1 kC_45 rfl h0_ h1_ ec2 dX11_take_9 ?_
  refine j_aload_n hJ1 dX11_take_10 rfl 0 rfl ?_
  refine j_ga hJ1 kC_0 fC_14_2 fl_X11_28 dX11_take_11 ?_
  refine j_callVv hJ1 (c_X5_takeFrom (l := l) (D := D) (cy := cy) (ad := ad) hin) rfl om_846 ⟨rfl, rfl, Nat.le_of_ble_eq_true rfl, Nat.le_of_ble_eq_true rfl⟩ [.ref (ad 26)] mv_X11_343 hd_X5_takeFromv (kP_0 hc2) rfl rfl rfl (Nat.le_of_ble_eq_true rfl) dX11_take_14 ⟨c2, rfl, hc2, hF⟩ (fun M4 qM4 => ?_)
  have hF := qM4
  refine j_aload_n hJ1 dX11_take_17 rfl 0 rfl ?_
  refine j_ga hJ1 kC_0 fC_14_4 fl_X11_41 dX11_take_18 ?_
  refine j_iload_n hJ1 dX11_take_21 rfl 1 rfl ?_
  obtain ⟨h0_, h1_, c5, ec5, hc5, hF⟩ := hF
  refine j_aald4 hJ1 gp1 kC_45 rfl h0_ h1_ ec5 dX11_take_22 ?_
  refine j_gi hJ1 (kP_0 hc5) fC_8_0 rfl fl_X11_357 dX11_take_23 (fun v6 ev6 gv6 => ?_)
  have hF := hF v6 ev6 gv6
  exact j_iret hJ1 rfl gv6 dX11_take_26 hF
def W_X11_isThing (ad : Nat → Nat) (Q : Int → MM → Prop) (av : List Value) (M : MM) : Prop := ∃ (p1 : Int) (p2 : Int), av = [.ref (ad 0), .int (Ii p1), .int (Ii p2)] ∧ ri_ p1 ∧ ri_ p2 ∧ w_X11_isThing  Q p1 p2 M
set_option maxHeartbeats 4000000 in
set_option maxRecDepth 100000 in
theorem c_X11_isThing {l : Launch} {D : va_G} {cy : Nat → ClassId} {ad : Nat → Nat} (hin : jIn ad ksC.length) : jCN l D vwCl (tyC cy) cy ad ftC ksC (XtC ad) yX11_isThing (.code yX11_isThing cX11_isThing 3 (some .boolean) :: Om) ({ frames := 1, cells := 0, slots := 0, locals := 20 } : Room) 3 (W_X11_isThing ad) := by
  refine jCN_of (y := yX11_isThing) (cc := cX11_isThing) (nL := 3) (rk := 3) (rm := ({ frames := 1, cells := 0, slots := 0, locals := 20 } : Room)) (own := RX11) (tyC_ok cy) hin (XtC_ok ad) Om_good (by decide) rfl ?_
  intro Q av M hF
  obtain ⟨p1, p2, rfl, gp1, gp2, hF⟩ := hF
  refine ⟨Nat.le_of_ble_eq_true rfl, fun J hJ => ?_⟩
  show J 0 [(0, .ref (ad 0)), (1, .int (Ii p1)), (2, .int (Ii p2))] [] M
  unfold w_X11_isThing at hF
  refine j_iload_n hJ dX11_isThing_0 rfl 1 rfl ?_
  refine j_callSz hJ (c_X11_isPicture (l := l) (D := D) (cy := cy) (ad := ad) hin) rfl om_912 ⟨rfl, rfl, Nat.le_of_ble_eq_true rfl, Nat.le_of_ble_eq_true rfl⟩ [.int (Ii p1)] mv_X11_412 hd_X11_isPicture rfl (Nat.le_of_ble_eq_true rfl) dX11_isThing_1 ⟨p1, rfl, gp1, hF⟩ (fun r1 M2 gr1 qM2 => ?_)
  have hF := qM2 gr1
  refine j_if_eq hJ 28 (jz_ri gr1) dX11_isThing_4 (by decide) (fun z3 => ?_) (fun z3 => ?_)
  · have hF := hF.1 z3
    refine j_iconst hJ dX11_isThing_28 ?_
    exact j_zret hJ rfl (by decide) dX11_isThing_29 hF
  · have hF := hF.2 z3
    refine j_iload_n hJ dX11_isThing_7 rfl 2 rfl ?_
    refine j_if_lt hJ 28 gp2 dX11_isThing_8 (by decide) (fun z4 => ?_) (fun z4 => ?_)
    · have hF := hF.1 z4
      refine j_iconst hJ dX11_isThing_28 ?_
      exact j_zret hJ rfl (by decide) dX11_isThing_29 hF
    · have hF := hF.2 z4
      refine j_iload_n hJ dX11_isThing_11 rfl 2 rfl ?_
      refine j_aload_n hJ dX11_isThing_12 rfl 0 rfl ?_
      refine j_ga hJ kC_0 fC_14_4 fl_X11_41 dX11_isThing_13 ?_
      refine j_iload_n hJ dX11_isThing_16 rfl 1 rfl ?_
      obtain ⟨h0_, h1_, c5, ec5, hc5, hF⟩ := hF
      refine j_aald4 hJ gp1 kC_45 rfl h0_ h1_ ec5 dX11_isThing_17 ?_
      refine j_gi hJ (kP_0 hc5) fC_8_0 rfl fl_X11_357 dX11_isThing_18 (fun v6 ev6 gv6 => ?_)
      have hF := hF v6 ev6 gv6
      refine j_icmp_ge hJ 28 gp2 gv6 dX11_isThing_21 (by decide) (fun z7 => ?_) (fun z7 => ?_)
      · have hF := hF.1 z7
        refine j_iconst hJ dX11_isThing_28 ?_
        exact j_zret hJ rfl (by decide) dX11_isThing_29 hF
      · have hF := hF.2 z7
        refine j_iconst hJ dX11_isThing_24 ?_
        refine j_goto hJ 29 dX11_isThing_25 (by decide) ?_
        exact j_zret hJ rfl (by decide) dX11_isThing_29 hF
def W_X11_thing (ad : Nat → Nat) (Q : Int → MM → Prop) (av : List Value) (M : MM) : Prop := ∃ (p1 : Int) (p2 : Int) (p3 : Int), av = [.ref (ad 0), .int (Ii p1), .int (Ii p2), .int (Ii p3)] ∧ ri_ p1 ∧ ri_ p2 ∧ ri_ p3 ∧ w_X11_thing  Q p1 p2 p3 M
set_option maxHeartbeats 4000000 in
set_option maxRecDepth 100000 in
theorem c_X11_thing {l : Launch} {D : va_G} {cy : Nat → ClassId} {ad : Nat → Nat} (hin : jIn ad ksC.length) : jCN l D vwCl (tyC cy) cy ad ftC ksC (XtC ad) yX11_thing (.code yX11_thing cX11_thing 5 (some .int) :: Om) ({ frames := 5, cells := 0, slots := 0, locals := 115 } : Room) 1 (W_X11_thing ad) := by
  refine jCN_of (y := yX11_thing) (cc := cX11_thing) (nL := 5) (rk := 1) (rm := ({ frames := 5, cells := 0, slots := 0, locals := 115 } : Room)) (own := RX11) (tyC_ok cy) hin (XtC_ok ad) Om_good (by decide) rfl ?_
  intro Q av M hF
  obtain ⟨p1, p2, p3, rfl, gp1, gp2, gp3, hF⟩ := hF
  refine ⟨Nat.le_of_ble_eq_true rfl, fun J hJ => ?_⟩
  show J 0 [(0, .ref (ad 0)), (1, .int (Ii p1)), (2, .int (Ii p2)), (3, .int (Ii p3))] [] M
  unfold w_X11_thing at hF
  refine j_aload_n hJ dX11_thing_0 rfl 0 rfl ?_
  refine j_iload_n hJ dX11_thing_1 rfl 1 rfl ?_
  refine j_iload_n hJ dX11_thing_2 rfl 2 rfl ?_
  refine j_callVz hJ (c_X11_isThing (l := l) (D := D) (cy := cy) (ad := ad) hin) rfl om_918 ⟨rfl, rfl, Nat.le_of_ble_eq_true rfl, Nat.le_of_ble_eq_true rfl⟩ [.int (Ii p1), .int (Ii p2)] mv_X11_360 hd_X11_isThingv kC_0 rfl rfl rfl (Nat.le_of_ble_eq_true rfl) dX11_thing_3 ⟨p1, p2, rfl, gp1, gp2, hF⟩ (fun r1 M2 gr1 qM2 => ?_)
  have hF := qM2 gr1
  refine j_if_ne hJ 11 (jz_ri gr1) dX11_thing_6 (by decide) (fun z3 => ?_) (fun z3 => ?_)
  · have hF := hF.1 z3
    refine j_aload_n hJ dX11_thing_11 rfl 0 rfl ?_
    refine j_ga hJ kC_0 fC_14_4 fl_X11_41 dX11_thing_12 ?_
    refine j_iload_n hJ dX11_thing_15 rfl 1 rfl ?_
    obtain ⟨h0_, h1_, c4, ec4, hc4, hF⟩ := hF
    refine j_aald4 hJ gp1 kC_45 rfl h0_ h1_ ec4 dX11_thing_16 ?_
    refine j_astore (lv' := [(4, .ref (ad c4)), (0, .ref (ad 0)), (1, .int (Ii p1)), (2, .int (Ii p2)), (3, .int (Ii p3))]) hJ dX11_thing_17 (by decide) rfl ?_
    refine j_iload_n hJ dX11_thing_19 rfl 4 rfl ?_
    by_cases z5 : p3 = 0
    · refine j_tabIn hJ 68 88 gp3 dX11_thing_20 (by omega) (by omega) (by rw [z5]; decide) (by decide) ?_
      have hF := hF.1 z5
      refine j_aload hJ dX11_thing_88 0 rfl ?_
      refine j_gr (e := (c4 + 1)) hJ (kP_0 hc4) fC_8_1 fl_X11_363 dX11_thing_90 rfl ?_
      refine j_iload_n hJ dX11_thing_93 rfl 3 rfl ?_
      refine j_iald hJ gp2 (kP_1 hc4) hF.1 hF.2.1 dX11_thing_94 (fun v6 ev6 gv6 => ?_)
      have hF := hF.2.2 v6 ev6 gv6
      exact j_iret hJ rfl gv6 dX11_thing_95 hF
    by_cases z7 : p3 = 1
    · refine j_tabIn hJ 76 96 gp3 dX11_thing_20 (by omega) (by omega) (by rw [z7]; decide) (by decide) ?_
      have hF := hF.2.1 z7
      refine j_aload hJ dX11_thing_96 0 rfl ?_
      refine j_gr (e := (c4 + 2)) hJ (kP_0 hc4) fC_8_2 fl_X11_366 dX11_thing_98 rfl ?_
      refine j_iload_n hJ dX11_thing_101 rfl 3 rfl ?_
      refine j_iald hJ gp2 (kP_2 hc4) hF.1 hF.2.1 dX11_thing_102 (fun v8 ev8 gv8 => ?_)
      have hF := hF.2.2 v8 ev8 gv8
      exact j_iret hJ rfl gv8 dX11_thing_103 hF
    by_cases z9 : p3 = 2
    · refine j_tabIn hJ 84 104 gp3 dX11_thing_20 (by omega) (by omega) (by rw [z9]; decide) (by decide) ?_
      have hF := hF.2.2.1 z9
      refine j_aload hJ dX11_thing_104 0 rfl ?_
      refine j_gr (e := (c4 + 3)) hJ (kP_0 hc4) fC_8_3 fl_X11_367 dX11_thing_106 rfl ?_
      refine j_iload_n hJ dX11_thing_109 rfl 3 rfl ?_
      refine j_iald hJ gp2 (kP_3 hc4) hF.1 hF.2.1 dX11_thing_110 (fun v10 ev10 gv10 => ?_)
      have hF := hF.2.2 v10 ev10 gv10
      exact j_iret hJ rfl gv10 dX11_thing_111 hF
    by_cases z11 : p3 = 3
    · refine j_tabIn hJ 92 112 gp3 dX11_thing_20 (by omega) (by omega) (by rw [z11]; decide) (by decide) ?_
      have hF := hF.2.2.2.1 z11
      refine j_aload_n hJ dX11_thing_112 rfl 1 rfl ?_
      refine j_ga hJ kC_0 fC_14_1 fl_X11_19 dX11_thing_113 ?_
      refine j_aload hJ dX11_thing_116 0 rfl ?_
      refine j_gr (e := (c4 + 2)) hJ (kP_0 hc4) fC_8_2 fl_X11_366 dX11_thing_118 rfl ?_
      refine j_iload_n hJ dX11_thing_121 rfl 3 rfl ?_
      refine j_iald hJ gp2 (kP_2 hc4) hF.1 hF.2.1 dX11_thing_122 (fun v12 ev12 gv12 => ?_)
      have hF := hF.2.2 v12 ev12 gv12
      refine j_aload hJ dX11_thing_123 0 rfl ?_
      refine j_gr (e := (c4 + 3)) hJ (kP_0 hc4) fC_8_3 fl_X11_367 dX11_thing_125 rfl ?_
      refine j_iload_n hJ dX11_thing_128 rfl 3 rfl ?_
      refine j_iald hJ gp2 (kP_3 hc4) hF.1 hF.2.1 dX11_thing_129 (fun v13 ev13 gv13 => ?_)
      have hF := hF.2.2 v13 ev13 gv13
      refine j_callVi hJ (c_X10_sizeOf (l := l) (D := D) (cy := cy) (ad := ad) hin) rfl om_387 ⟨rfl, rfl, Nat.le_of_ble_eq_true rfl, Nat.le_of_ble_eq_true rfl⟩ [.int (Ii v12), .int (Ii v13)] mv_X11_178 hd_X10_sizeOfv kC_8 rfl rfl rfl (Nat.le_of_ble_eq_true rfl) dX11_thing_130 ⟨v12, v13, rfl, gv12, gv13, hF⟩ (fun r14 M15 gr14 qM15 => ?_)
      have hF := qM15 gr14
      exact j_iret hJ rfl gr14 dX11_thing_133 hF
    by_cases z16 : p3 = 4
    · refine j_tabIn hJ 114 134 gp3 dX11_thing_20 (by omega) (by omega) (by rw [z16]; decide) (by decide) ?_
      have hF := hF.2.2.2.2.1 z16
      refine j_aload hJ dX11_thing_134 0 rfl ?_
      refine j_gr (e := (c4 + 5)) hJ (kP_0 hc4) fC_8_5 fl_X11_368 dX11_thing_136 rfl ?_
      refine j_iload_n hJ dX11_thing_139 rfl 3 rfl ?_
      refine j_iald hJ gp2 (kP_5 hc4) hF.1 hF.2.1 dX11_thing_140 (fun v17 ev17 gv17 => ?_)
      have hF := hF.2.2 v17 ev17 gv17
      exact j_iret hJ rfl gv17 dX11_thing_141 hF
    by_cases z18 : p3 = 5
    · refine j_tabIn hJ 122 142 gp3 dX11_thing_20 (by omega) (by omega) (by rw [z18]; decide) (by decide) ?_
      have hF := hF.2.2.2.2.2.1 z18
      refine j_aload hJ dX11_thing_142 0 rfl ?_
      refine j_gr (e := (c4 + 6)) hJ (kP_0 hc4) fC_8_6 fl_X11_371 dX11_thing_144 rfl ?_
      refine j_iload_n hJ dX11_thing_147 rfl 3 rfl ?_
      refine j_iald hJ gp2 (kP_6 hc4) hF.1 hF.2.1 dX11_thing_148 (fun v19 ev19 gv19 => ?_)
      have hF := hF.2.2 v19 ev19 gv19
      exact j_iret hJ rfl gv19 dX11_thing_149 hF
    by_cases z20 : p3 = 6
    · refine j_tabIn hJ 130 150 gp3 dX11_thing_20 (by omega) (by omega) (by rw [z20]; decide) (by decide) ?_
      have hF := hF.2.2.2.2.2.2.1 z20
      refine j_aload hJ dX11_thing_150 0 rfl ?_
      refine j_gr (e := (c4 + 7)) hJ (kP_0 hc4) fC_8_7 fl_X11_374 dX11_thing_152 rfl ?_
      refine j_iload_n hJ dX11_thing_155 rfl 3 rfl ?_
      refine j_iald hJ gp2 (kP_7 hc4) hF.1 hF.2.1 dX11_thing_156 (fun v21 ev21 gv21 => ?_)
      have hF := hF.2.2 v21 ev21 gv21
      exact j_iret hJ rfl gv21 dX11_thing_157 hF
    by_cases z22 : p3 = 7
    · refine j_tabIn hJ 138 158 gp3 dX11_thing_20 (by omega) (by omega) (by rw [z22]; decide) (by decide) ?_
      have hF := hF.2.2.2.2.2.2.2.1 z22
      refine j_aload hJ dX11_thing_158 0 rfl ?_
      refine j_iload_n hJ dX11_thing_160 rfl 3 rfl ?_
      refine j_callVi hJ (c_X5_holdersOf (l := l) (D := D) (cy := cy) (ad := ad) hin) rfl om_922 ⟨rfl, rfl, Nat.le_of_ble_eq_true rfl, Nat.le_of_ble_eq_true rfl⟩ [.int (Ii p2)] mv_X11_377 hd_X5_holdersOfv (kP_0 hc4) rfl rfl rfl (Nat.le_of_ble_eq_true rfl) dX11_thing_161 ⟨c4, p2, rfl, hc4, gp2, hF⟩ (fun r23 M24 gr23 qM24 => ?_)
      have hF := qM24 gr23
      exact j_iret hJ rfl gr23 dX11_thing_164 hF
    by_cases z25 : p3 = 8
    · refine j_tabIn hJ 145 165 gp3 dX11_thing_20 (by omega) (by omega) (by rw [z25]; decide) (by decide) ?_
      have hF := hF.2.2.2.2.2.2.2.2.1 z25
      refine j_aload hJ dX11_thing_165 0 rfl ?_
      refine j_iload_n hJ dX11_thing_167 rfl 3 rfl ?_
      refine j_callVi hJ (c_X5_dominatorOf (l := l) (D := D) (cy := cy) (ad := ad) hin) rfl om_926 ⟨rfl, rfl, Nat.le_of_ble_eq_true rfl, Nat.le_of_ble_eq_true rfl⟩ [.int (Ii p2)] mv_X11_380 hd_X5_dominatorOfv (kP_0 hc4) rfl rfl rfl (Nat.le_of_ble_eq_true rfl) dX11_thing_168 ⟨c4, p2, rfl, hc4, gp2, hF⟩ (fun r26 M27 gr26 qM27 => ?_)
      have hF := qM27 gr26
      exact j_iret hJ rfl gr26 dX11_thing_171 hF
    by_cases z28 : p3 = 9
    · refine j_tabIn hJ 152 172 gp3 dX11_thing_20 (by omega) (by omega) (by rw [z28]; decide) (by decide) ?_
      have hF := hF.2.2.2.2.2.2.2.2.2.1 z28
      refine j_aload hJ dX11_thing_172 0 rfl ?_
      refine j_iload_n hJ dX11_thing_174 rfl 3 rfl ?_
      refine j_callVi hJ (c_X5_keptBy (l := l) (D := D) (cy := cy) (ad := ad) hin) rfl om_930 ⟨rfl, rfl, Nat.le_of_ble_eq_true rfl, Nat.le_of_ble_eq_true rfl⟩ [.int (Ii p2)] mv_X11_383 hd_X5_keptByv (kP_0 hc4) rfl rfl rfl (Nat.le_of_ble_eq_true rfl) dX11_thing_175 ⟨c4, p2, rfl, hc4, gp2, hF⟩ (fun r29 M30 gr29 qM30 => ?_)
      have hF := qM30 gr29
      exact j_iret hJ rfl gr29 dX11_thing_178 hF
    by_cases z31 : p3 = 10
    · refine j_tabIn hJ 159 179 gp3 dX11_thing_20 (by omega) (by omega) (by rw [z31]; decide) (by decide) ?_
      have hF := hF.2.2.2.2.2.2.2.2.2.2.1 z31
      refine j_aload hJ dX11_thing_179 0 rfl ?_
      refine j_iload_n hJ dX11_thing_181 rfl 3 rfl ?_
      refine j_callVi hJ (c_X5_dominatedBy (l := l) (D := D) (cy := cy) (ad := ad) hin) rfl om_934 ⟨rfl, rfl, Nat.le_of_ble_eq_true rfl, Nat.le_of_ble_eq_true rfl⟩ [.int (Ii p2)] mv_X11_386 hd_X5_dominatedByv (kP_0 hc4) rfl rfl rfl (Nat.le_of_ble_eq_true rfl) dX11_thing_182 ⟨c4, p2, rfl, hc4, gp2, hF⟩ (fun r32 M33 gr32 qM33 => ?_)
      have hF := qM33 gr32
      exact j_iret hJ rfl gr32 dX11_thing_185 hF
    by_cases z34 : p3 = 11
    · refine j_tabIn hJ 166 186 gp3 dX11_thing_20 (by omega) (by omega) (by rw [z34]; decide) (by decide) ?_
      have hF := hF.2.2.2.2.2.2.2.2.2.2.2.1 z34
      refine j_aload hJ dX11_thing_186 0 rfl ?_
      refine j_iload_n hJ dX11_thing_188 rfl 3 rfl ?_
      refine j_callVi hJ (c_X5_ringOf (l := l) (D := D) (cy := cy) (ad := ad) hin) rfl om_938 ⟨rfl, rfl, Nat.le_of_ble_eq_true rfl, Nat.le_of_ble_eq_true rfl⟩ [.int (Ii p2)] mv_X11_389 hd_X5_ringOfv (kP_0 hc4) rfl rfl rfl (Nat.le_of_ble_eq_true rfl) dX11_thing_189 ⟨c4, p2, rfl, hc4, gp2, hF⟩ (fun r35 M36 gr35 qM36 => ?_)
      have hF := qM36 gr35
      exact j_iret hJ rfl gr35 dX11_thing_192 hF
    by_cases z37 : p3 = 12
    · refine j_tabIn hJ 173 193 gp3 dX11_thing_20 (by omega) (by omega) (by rw [z37]; decide) (by decide) ?_
      have hF := hF.2.2.2.2.2.2.2.2.2.2.2.2.1 z37
      refine j_aload hJ dX11_thing_193 0 rfl ?_
      refine j_iload_n hJ dX11_thing_195 rfl 3 rfl ?_
      refine j_callVi hJ (c_X5_twinOf (l := l) (D := D) (cy := cy) (ad := ad) hin) rfl om_942 ⟨rfl, rfl, Nat.le_of_ble_eq_true rfl, Nat.le_of_ble_eq_true rfl⟩ [.int (Ii p2)] mv_X11_392 hd_X5_twinOfv (kP_0 hc4) rfl rfl rfl (Nat.le_of_ble_eq_true rfl) dX11_thing_196 ⟨c4, p2, rfl, hc4, gp2, hF⟩ (fun r38 M39 gr38 qM39 => ?_)
      have hF := qM39 gr38
      exact j_iret hJ rfl gr38 dX11_thing_199 hF
    have z40 : ¬ p3 = 0 ∧ ¬ p3 = 1 ∧ ¬ p3 = 2 ∧ ¬ p3 = 3 ∧ ¬ p3 = 4 ∧ ¬ p3 = 5 ∧ ¬ p3 = 6 ∧ ¬ p3 = 7 ∧ ¬ p3 = 8 ∧ ¬ p3 = 9 ∧ ¬ p3 = 10 ∧ ¬ p3 = 11 ∧ ¬ p3 = 12 := ⟨z5, z7, z9, z11, z16, z18, z20, z22, z25, z28, z31, z34, z37⟩
    have hF := hF.2.2.2.2.2.2.2.2.2.2.2.2.2 z40
    refine j_tabOut hJ 200 gp3 dX11_thing_20 (by omega) (by decide) ?_
    refine j_iconst hJ dX11_thing_200 ?_
    exact j_iret hJ rfl rk_m1 dX11_thing_201 hF
  · have hF := hF.2 z3
    refine j_iconst hJ dX11_thing_9 ?_
    exact j_iret hJ rfl rk_m1 dX11_thing_10 hF
def W_X11_slot (ad : Nat → Nat) (Q : Int → MM → Prop) (X : String → MM → Prop) (av : List Value) (M : MM) : Prop := ∃ (p1 : Int) (p2 : Int) (p3 : Int), av = [.ref (ad 0), .int (Ii p1), .int (Ii p2), .int (Ii p3)] ∧ ri_ p1 ∧ ri_ p2 ∧ ri_ p3 ∧ w_X11_slot  Q X p1 p2 p3 M
set_option maxHeartbeats 4000000 in
set_option maxRecDepth 100000 in
theorem k_X11_slot_b42 {l : Launch} {D : va_G} {cy : Nat → ClassId} {ad : Nat → Nat} {Q : Int → MM → Prop} {X : String → MM → Prop} {J : Nat → List (Nat × Value) → List Value → MM → Prop} (hst : l.stackTraces = false) (hin : jIn ad ksC.length)   (hJ : jOk l D vwCl (tyC cy) cy ad ftC ksC (XtC ad) Om RX11 cX11_slot 4 2 ({ frames := 9, cells := 1, slots := 6, locals := 140 } : Room) Q J) (hT : jTh RX11 cX11_slot Om ({ frames := 9, cells := 1, slots := 6, locals := 140 } : Room) ["java/util/NoSuchElementException"] X J)  : ∀ (M : MM), w_X11_slot_b42  Q X   M → J 42 [] [] M := by
  intro  M  hF
  unfold w_X11_slot_b42 at hF
  exact hT _ _ _ _ _ _ _ (by decide) (tw_X11_222_224 (Nat.le_of_ble_eq_true rfl) (Nat.le_of_ble_eq_true rfl)) dX11_slot_42 dX11_slot_45 dX11_slot_46 dX11_slot_49 hF
set_option maxHeartbeats 4000000 in
set_option maxRecDepth 100000 in
theorem c_X11_slot {l : Launch} {D : va_G} {cy : Nat → ClassId} {ad : Nat → Nat} (hst : l.stackTraces = false) (hin : jIn ad ksC.length) : jXN l D vwCl (tyC cy) cy ad ftC ksC (XtC ad) yX11_slot (.code yX11_slot cX11_slot 4 (some .long) :: Om) ({ frames := 9, cells := 1, slots := 6, locals := 140 } : Room) 2 1 6 ["java/util/NoSuchElementException"] (W_X11_slot ad) := by
  refine jXN_of (y := yX11_slot) (cc := cX11_slot) (nL := 4) (rk := 2) (rm := ({ frames := 9, cells := 1, slots := 6, locals := 140 } : Room)) (own := RX11) 0 ["java/util/NoSuchElementException"] hst (XtC_z ad) (tyC_ok cy) hin (XtC_ok ad) Om_good (by decide) rfl ⟨rfl, rfl⟩ ?_
  intro Q X av M hF
  obtain ⟨p1, p2, p3, rfl, gp1, gp2, gp3, hF⟩ := hF
  refine ⟨Nat.le_of_ble_eq_true rfl, fun J hJ hT hC => ?_⟩
  have hJ0 := hJ 0 (by decide)
  have hT0 := hT 0 (by decide)
  show J 0 0 [(0, .ref (ad 0)), (1, .int (Ii p1)), (2, .int (Ii p2)), (3, .int (Ii p3))] [] M
  unfold w_X11_slot at hF
  refine j_aload_n hJ0 dX11_slot_0 rfl 0 rfl ?_
  refine j_iload_n hJ0 dX11_slot_1 rfl 1 rfl ?_
  refine j_iload_n hJ0 dX11_slot_2 rfl 2 rfl ?_
  refine j_callVz hJ0 (c_X11_isThing (l := l) (D := D) (cy := cy) (ad := ad) hin) rfl om_918 ⟨rfl, rfl, Nat.le_of_ble_eq_true rfl, Nat.le_of_ble_eq_true rfl⟩ [.int (Ii p1), .int (Ii p2)] mv_X11_360 hd_X11_isThingv kC_0 rfl rfl rfl (Nat.le_of_ble_eq_true rfl) dX11_slot_3 ⟨p1, p2, rfl, gp1, gp2, hF⟩ (fun r1 M2 gr1 qM2 => ?_)
  have hF := qM2 gr1
  refine j_if_eq hJ0 42 (jz_ri gr1) dX11_slot_6 (by decide) (fun z3 => ?_) (fun z3 => ?_)
  · have hF := hF.1 z3
    exact j_sub hJ0 [] rfl (k_X11_slot_b42 hst hin  hJ0 hT0   _  hF)
  · have hF := hF.2 z3
    refine j_iload_n hJ0 dX11_slot_9 rfl 3 rfl ?_
    refine j_if_lt hJ0 42 gp3 dX11_slot_10 (by decide) (fun z4 => ?_) (fun z4 => ?_)
    · have hF := hF.1 z4
      exact j_sub hJ0 [] rfl (k_X11_slot_b42 hst hin  hJ0 hT0   _  hF)
    · have hF := hF.2 z4
      refine j_iload_n hJ0 dX11_slot_13 rfl 3 rfl ?_
      refine j_aload_n hJ0 dX11_slot_14 rfl 0 rfl ?_
      refine j_ga hJ0 kC_0 fC_14_4 fl_X11_41 dX11_slot_15 ?_
      refine j_iload_n hJ0 dX11_slot_18 rfl 1 rfl ?_
      obtain ⟨h0_, h1_, c5, ec5, hc5, hF⟩ := hF
      refine j_aald4 hJ0 gp1 kC_45 rfl h0_ h1_ ec5 dX11_slot_19 ?_
      refine j_gr (e := (c5 + 4)) hJ0 (kP_0 hc5) fC_8_4 fl_X11_395 dX11_slot_20 rfl ?_
      refine j_iload_n hJ0 dX11_slot_23 rfl 2 rfl ?_
      refine j_iconst hJ0 dX11_slot_24 ?_
      refine j_iadd hJ0 dX11_slot_25 ?_
      have g6 := hF.1; have hF := hF.2
      refine j_iald hJ0 g6 (kP_4 hc5) hF.1 hF.2.1 dX11_slot_26 (fun v7 ev7 gv7 => ?_)
      have hF := hF.2.2 v7 ev7 gv7
      refine j_aload_n hJ0 dX11_slot_27 rfl 0 rfl ?_
      refine j_ga hJ0 kC_0 fC_14_4 fl_X11_41 dX11_slot_28 ?_
      refine j_iload_n hJ0 dX11_slot_31 rfl 1 rfl ?_
      obtain ⟨h0_, h1_, c8, ec8, hc8, hF⟩ := hF
      refine j_aald4 hJ0 gp1 kC_45 rfl h0_ h1_ ec8 dX11_slot_32 ?_
      refine j_gr (e := (c8 + 4)) hJ0 (kP_0 hc8) fC_8_4 fl_X11_395 dX11_slot_33 rfl ?_
      refine j_iload_n hJ0 dX11_slot_36 rfl 2 rfl ?_
      refine j_iald hJ0 gp2 (kP_4 hc8) hF.1 hF.2.1 dX11_slot_37 (fun v9 ev9 gv9 => ?_)
      have hF := hF.2.2 v9 ev9 gv9
      refine j_isub hJ0 dX11_slot_38 ?_
      have g10 := hF.1; have hF := hF.2
      refine j_icmp_lt hJ0 50 gp3 g10 dX11_slot_39 (by decide) (fun z11 => ?_) (fun z11 => ?_)
      · have hF := hF.1 z11
        refine j_aload_n hJ0 dX11_slot_50 rfl 0 rfl ?_
        refine j_ga hJ0 kC_0 fC_14_4 fl_X11_41 dX11_slot_51 ?_
        refine j_iload_n hJ0 dX11_slot_54 rfl 1 rfl ?_
        obtain ⟨h0_, h1_, c12, ec12, hc12, hF⟩ := hF
        refine j_aald4 hJ0 gp1 kC_45 rfl h0_ h1_ ec12 dX11_slot_55 ?_
        refine j_gr (e := (c12 + 9)) hJ0 (kP_0 hc12) fC_8_9 fl_X11_396 dX11_slot_56 rfl ?_
        refine j_aload_n hJ0 dX11_slot_59 rfl 0 rfl ?_
        refine j_ga hJ0 kC_0 fC_14_4 fl_X11_41 dX11_slot_60 ?_
        refine j_iload_n hJ0 dX11_slot_63 rfl 1 rfl ?_
        obtain ⟨h0_, h1_, c13, ec13, hc13, hF⟩ := hF
        refine j_aald4 hJ0 gp1 kC_45 rfl h0_ h1_ ec13 dX11_slot_64 ?_
        refine j_gr (e := (c13 + 4)) hJ0 (kP_0 hc13) fC_8_4 fl_X11_395 dX11_slot_65 rfl ?_
        refine j_iload_n hJ0 dX11_slot_68 rfl 2 rfl ?_
        refine j_iald hJ0 gp2 (kP_4 hc13) hF.1 hF.2.1 dX11_slot_69 (fun v14 ev14 gv14 => ?_)
        have hF := hF.2.2 v14 ev14 gv14
        refine j_iload_n hJ0 dX11_slot_70 rfl 3 rfl ?_
        refine j_iadd hJ0 dX11_slot_71 ?_
        have g15 := hF.1; have hF := hF.2
        refine j_lald hJ0 g15 (kP_9 hc12) hF.1 hF.2.1 dX11_slot_72 (fun v16 ev16 gv16 => ?_)
        have hF := hF.2.2 v16 ev16 gv16
        exact j_lret hJ0 rfl gv16 dX11_slot_73 hF
      · have hF := hF.2 z11
        exact j_sub hJ0 [] rfl (k_X11_slot_b42 hst hin  hJ0 hT0   _  hF)
def W_X11_holder (ad : Nat → Nat) (Q : Int → MM → Prop) (X : String → MM → Prop) (av : List Value) (M : MM) : Prop := ∃ (p1 : Int) (p2 : Int) (p3 : Int) (p4 : Int), av = [.ref (ad 0), .int (Ii p1), .int (Ii p2), .int (Ii p3), .int (Ii p4)] ∧ ri_ p1 ∧ ri_ p2 ∧ ri_ p3 ∧ ri_ p4 ∧ w_X11_holder  Q X p1 p2 p3 p4 M
set_option maxHeartbeats 4000000 in
set_option maxRecDepth 100000 in
theorem k_X11_holder_b38 {l : Launch} {D : va_G} {cy : Nat → ClassId} {ad : Nat → Nat} {Q : Int → MM → Prop} {X : String → MM → Prop} {J : Nat → List (Nat × Value) → List Value → MM → Prop} (hst : l.stackTraces = false) (hin : jIn ad ksC.length)   (hJ : jOk l D vwCl (tyC cy) cy ad ftC ksC (XtC ad) Om RX11 cX11_holder 7 1 ({ frames := 9, cells := 1, slots := 6, locals := 140 } : Room) Q J) (hT : jTh RX11 cX11_holder Om ({ frames := 9, cells := 1, slots := 6, locals := 140 } : Room) ["java/util/NoSuchElementException"] X J)  : ∀ (M : MM), w_X11_holder_b38  Q X   M → J 38 [] [] M := by
  intro  M  hF
  unfold w_X11_holder_b38 at hF
  exact hT _ _ _ _ _ _ _ (by decide) (tw_X11_222_224 (Nat.le_of_ble_eq_true rfl) (Nat.le_of_ble_eq_true rfl)) dX11_holder_38 dX11_holder_41 dX11_holder_42 dX11_holder_45 hF
set_option maxHeartbeats 4000000 in
set_option maxRecDepth 100000 in
theorem c_X11_holder {l : Launch} {D : va_G} {cy : Nat → ClassId} {ad : Nat → Nat} (hst : l.stackTraces = false) (hin : jIn ad ksC.length) : jXN l D vwCl (tyC cy) cy ad ftC ksC (XtC ad) yX11_holder (.code yX11_holder cX11_holder 7 (some .int) :: Om) ({ frames := 9, cells := 1, slots := 6, locals := 140 } : Room) 1 1 6 ["java/util/NoSuchElementException"] (W_X11_holder ad) := by
  refine jXN_of (y := yX11_holder) (cc := cX11_holder) (nL := 7) (rk := 1) (rm := ({ frames := 9, cells := 1, slots := 6, locals := 140 } : Room)) (own := RX11) 0 ["java/util/NoSuchElementException"] hst (XtC_z ad) (tyC_ok cy) hin (XtC_ok ad) Om_good (by decide) rfl ⟨rfl, rfl⟩ ?_
  intro Q X av M hF
  obtain ⟨p1, p2, p3, p4, rfl, gp1, gp2, gp3, gp4, hF⟩ := hF
  refine ⟨Nat.le_of_ble_eq_true rfl, fun J hJ hT hC => ?_⟩
  have hJ0 := hJ 0 (by decide)
  have hT0 := hT 0 (by decide)
  show J 0 0 [(0, .ref (ad 0)), (1, .int (Ii p1)), (2, .int (Ii p2)), (3, .int (Ii p3)), (4, .int (Ii p4))] [] M
  unfold w_X11_holder at hF
  refine j_aload_n hJ0 dX11_holder_0 rfl 0 rfl ?_
  refine j_iload_n hJ0 dX11_holder_1 rfl 1 rfl ?_
  refine j_iload_n hJ0 dX11_holder_2 rfl 2 rfl ?_
  refine j_callVz hJ0 (c_X11_isThing (l := l) (D := D) (cy := cy) (ad := ad) hin) rfl om_918 ⟨rfl, rfl, Nat.le_of_ble_eq_true rfl, Nat.le_of_ble_eq_true rfl⟩ [.int (Ii p1), .int (Ii p2)] mv_X11_360 hd_X11_isThingv kC_0 rfl rfl rfl (Nat.le_of_ble_eq_true rfl) dX11_holder_3 ⟨p1, p2, rfl, gp1, gp2, hF⟩ (fun r1 M2 gr1 qM2 => ?_)
  have hF := qM2 gr1
  refine j_if_eq hJ0 38 (jz_ri gr1) dX11_holder_6 (by decide) (fun z3 => ?_) (fun z3 => ?_)
  · have hF := hF.1 z3
    exact j_sub hJ0 [] rfl (k_X11_holder_b38 hst hin  hJ0 hT0   _  hF)
  · have hF := hF.2 z3
    refine j_iload_n hJ0 dX11_holder_9 rfl 3 rfl ?_
    refine j_if_lt hJ0 38 gp3 dX11_holder_10 (by decide) (fun z4 => ?_) (fun z4 => ?_)
    · have hF := hF.1 z4
      exact j_sub hJ0 [] rfl (k_X11_holder_b38 hst hin  hJ0 hT0   _  hF)
    · have hF := hF.2 z4
      refine j_iload_n hJ0 dX11_holder_13 rfl 3 rfl ?_
      refine j_aload_n hJ0 dX11_holder_14 rfl 0 rfl ?_
      refine j_ga hJ0 kC_0 fC_14_4 fl_X11_41 dX11_holder_15 ?_
      refine j_iload_n hJ0 dX11_holder_18 rfl 1 rfl ?_
      obtain ⟨h0_, h1_, c5, ec5, hc5, hF⟩ := hF
      refine j_aald4 hJ0 gp1 kC_45 rfl h0_ h1_ ec5 dX11_holder_19 ?_
      refine j_iload_n hJ0 dX11_holder_20 rfl 2 rfl ?_
      refine j_callVi hJ0 (c_X5_holdersOf (l := l) (D := D) (cy := cy) (ad := ad) hin) rfl om_922 ⟨rfl, rfl, Nat.le_of_ble_eq_true rfl, Nat.le_of_ble_eq_true rfl⟩ [.int (Ii p2)] mv_X11_377 hd_X5_holdersOfv (kP_0 hc5) rfl rfl rfl (Nat.le_of_ble_eq_true rfl) dX11_holder_21 ⟨c5, p2, rfl, hc5, gp2, hF⟩ (fun r6 M7 gr6 qM7 => ?_)
      have hF := qM7 gr6
      refine j_icmp_ge hJ0 38 gp3 gr6 dX11_holder_24 (by decide) (fun z8 => ?_) (fun z8 => ?_)
      · have hF := hF.1 z8
        exact j_sub hJ0 [] rfl (k_X11_holder_b38 hst hin  hJ0 hT0   _  hF)
      · have hF := hF.2 z8
        refine j_iload hJ0 dX11_holder_27 4 rfl ?_
        refine j_if_lt hJ0 38 gp4 dX11_holder_29 (by decide) (fun z9 => ?_) (fun z9 => ?_)
        · have hF := hF.1 z9
          exact j_sub hJ0 [] rfl (k_X11_holder_b38 hst hin  hJ0 hT0   _  hF)
        · have hF := hF.2 z9
          refine j_iload hJ0 dX11_holder_32 4 rfl ?_
          refine j_iconst hJ0 dX11_holder_34 ?_
          refine j_icmp_le hJ0 46 gp4 rk_1 dX11_holder_35 (by decide) (fun z10 => ?_) (fun z10 => ?_)
          · have hF := hF.1 z10
            refine j_aload_n hJ0 dX11_holder_46 rfl 0 rfl ?_
            refine j_ga hJ0 kC_0 fC_14_4 fl_X11_41 dX11_holder_47 ?_
            refine j_iload_n hJ0 dX11_holder_50 rfl 1 rfl ?_
            obtain ⟨h0_, h1_, c11, ec11, hc11, hF⟩ := hF
            refine j_aald4 hJ0 gp1 kC_45 rfl h0_ h1_ ec11 dX11_holder_51 ?_
            refine j_gr (e := (c11 + 18)) hJ0 (kP_0 hc11) fC_8_20 fl_X11_397 dX11_holder_52 rfl ?_
            refine j_astore (lv' := [(5, .ref (ad (c11 + 18))), (0, .ref (ad 0)), (1, .int (Ii p1)), (2, .int (Ii p2)), (3, .int (Ii p3)), (4, .int (Ii p4))]) hJ0 dX11_holder_55 (by decide) rfl ?_
            refine j_aload hJ0 dX11_holder_57 0 rfl ?_
            refine j_gr (e := (c11 + 19)) hJ0 (kP_18 hc11) fC_11_2 fl_X11_401 dX11_holder_59 rfl ?_
            refine j_iload_n hJ0 dX11_holder_62 rfl 3 rfl ?_
            refine j_iald hJ0 gp2 (kP_19 hc11) hF.1 hF.2.1 dX11_holder_63 (fun v12 ev12 gv12 => ?_)
            have hF := hF.2.2 v12 ev12 gv12
            refine j_iload_n hJ0 dX11_holder_64 rfl 4 rfl ?_
            refine j_iadd hJ0 dX11_holder_65 ?_
            have g13 := hF.1; have hF := hF.2
            refine j_istore (lv' := [(6, .int (Ii (v12 + p3))), (5, .ref (ad (c11 + 18))), (0, .ref (ad 0)), (1, .int (Ii p1)), (2, .int (Ii p2)), (3, .int (Ii p3)), (4, .int (Ii p4))]) hJ0 dX11_holder_66 (by decide) rfl ?_
            refine j_iload hJ0 dX11_holder_68 6 rfl ?_
            refine j_if_ne hJ0 84 gp4 dX11_holder_70 (by decide) (fun z14 => ?_) (fun z14 => ?_)
            · have hF := hF.1 z14
              refine j_aload hJ0 dX11_holder_84 1 rfl ?_
              refine j_gr (e := (c11 + 21)) hJ0 (kP_18 hc11) fC_11_4 fl_X11_409 dX11_holder_86 rfl ?_
              refine j_iload hJ0 dX11_holder_89 0 rfl ?_
              refine j_iald hJ0 g13 (kP_21 hc11) hF.1 hF.2.1 dX11_holder_91 (fun v15 ev15 gv15 => ?_)
              have hF := hF.2.2 v15 ev15 gv15
              exact j_iret hJ0 rfl gv15 dX11_holder_92 hF
            · have hF := hF.2 z14
              refine j_aload hJ0 dX11_holder_73 1 rfl ?_
              refine j_gr (e := (c11 + 20)) hJ0 (kP_18 hc11) fC_11_3 fl_X11_406 dX11_holder_75 rfl ?_
              refine j_iload hJ0 dX11_holder_78 0 rfl ?_
              refine j_iald hJ0 g13 (kP_20 hc11) hF.1 hF.2.1 dX11_holder_80 (fun v16 ev16 gv16 => ?_)
              have hF := hF.2.2 v16 ev16 gv16
              refine j_goto hJ0 92 dX11_holder_81 (by decide) ?_
              exact j_iret hJ0 rfl gv16 dX11_holder_92 hF
          · have hF := hF.2 z10
            exact j_sub hJ0 [] rfl (k_X11_holder_b38 hst hin  hJ0 hT0   _  hF)
def W_X11_picture (ad : Nat → Nat) (Q : Int → MM → Prop) (av : List Value) (M : MM) : Prop := ∃ (p1 : Int) (p2 : Int), av = [.ref (ad 0), .int (Ii p1), .int (Ii p2)] ∧ ri_ p1 ∧ ri_ p2 ∧ w_X11_picture  Q p1 p2 M
set_option maxHeartbeats 4000000 in
set_option maxRecDepth 100000 in
theorem c_X11_picture {l : Launch} {D : va_G} {cy : Nat → ClassId} {ad : Nat → Nat} (hin : jIn ad ksC.length) : jCN l D vwCl (tyC cy) cy ad ftC ksC (XtC ad) yX11_picture (.code yX11_picture cX11_picture 4 (some .int) :: Om) ({ frames := 5, cells := 0, slots := 0, locals := 112 } : Room) 1 (W_X11_picture ad) := by
  refine jCN_of (y := yX11_picture) (cc := cX11_picture) (nL := 4) (rk := 1) (rm := ({ frames := 5, cells := 0, slots := 0, locals := 112 } : Room)) (own := RX11) (tyC_ok cy) hin (XtC_ok ad) Om_good (by decide) rfl ?_
  intro Q av M hF
  obtain ⟨p1, p2, rfl, gp1, gp2, hF⟩ := hF
  refine ⟨Nat.le_of_ble_eq_true rfl, fun J hJ => ?_⟩
  show J 0 [(0, .ref (ad 0)), (1, .int (Ii p1)), (2, .int (Ii p2))] [] M
  unfold w_X11_picture at hF
  refine j_iload_n hJ dX11_picture_0 rfl 1 rfl ?_
  refine j_callSz hJ (c_X11_isPicture (l := l) (D := D) (cy := cy) (ad := ad) hin) rfl om_912 ⟨rfl, rfl, Nat.le_of_ble_eq_true rfl, Nat.le_of_ble_eq_true rfl⟩ [.int (Ii p1)] mv_X11_412 hd_X11_isPicture rfl (Nat.le_of_ble_eq_true rfl) dX11_picture_1 ⟨p1, rfl, gp1, hF⟩ (fun r1 M2 gr1 qM2 => ?_)
  have hF := qM2 gr1
  refine j_if_ne hJ 9 (jz_ri gr1) dX11_picture_4 (by decide) (fun z3 => ?_) (fun z3 => ?_)
  · have hF := hF.1 z3
    refine j_aload_n hJ dX11_picture_9 rfl 0 rfl ?_
    refine j_ga hJ kC_0 fC_14_4 fl_X11_41 dX11_picture_10 ?_
    refine j_iload_n hJ dX11_picture_13 rfl 1 rfl ?_
    obtain ⟨h0_, h1_, c4, ec4, hc4, hF⟩ := hF
    refine j_aald4 hJ gp1 kC_45 rfl h0_ h1_ ec4 dX11_picture_14 ?_
    refine j_astore_n (lv' := [(3, .ref (ad c4)), (0, .ref (ad 0)), (1, .int (Ii p1)), (2, .int (Ii p2))]) hJ dX11_picture_15 rfl (by decide) rfl ?_
    refine j_iload_n hJ dX11_picture_16 rfl 3 rfl ?_
    by_cases z5 : p2 = 0
    · refine j_tabIn hJ 39 56 gp2 dX11_picture_17 (by omega) (by omega) (by rw [z5]; decide) (by decide) ?_
      have hF := hF.1 z5
      refine j_aload_n hJ dX11_picture_56 rfl 0 rfl ?_
      refine j_gi hJ (kP_0 hc4) fC_8_0 rfl fl_X11_357 dX11_picture_57 (fun v6 ev6 gv6 => ?_)
      have hF := hF v6 ev6 gv6
      exact j_iret hJ rfl gv6 dX11_picture_60 hF
    by_cases z7 : p2 = 1
    · refine j_tabIn hJ 44 61 gp2 dX11_picture_17 (by omega) (by omega) (by rw [z7]; decide) (by decide) ?_
      have hF := hF.2.1 z7
      refine j_aload_n hJ dX11_picture_61 rfl 0 rfl ?_
      refine j_callVi hJ (c_X5_ringCount (l := l) (D := D) (cy := cy) (ad := ad) hin) rfl om_946 ⟨rfl, rfl, Nat.le_of_ble_eq_true rfl, Nat.le_of_ble_eq_true rfl⟩ [] mv_X11_415 hd_X5_ringCountv (kP_0 hc4) rfl rfl rfl (Nat.le_of_ble_eq_true rfl) dX11_picture_62 ⟨c4, rfl, hc4, hF⟩ (fun r8 M9 gr8 qM9 => ?_)
      have hF := qM9 gr8
      exact j_iret hJ rfl gr8 dX11_picture_65 hF
    by_cases z10 : p2 = 2
    · refine j_tabIn hJ 49 66 gp2 dX11_picture_17 (by omega) (by omega) (by rw [z10]; decide) (by decide) ?_
      have hF := hF.2.2.1 z10
      refine j_aload_n hJ dX11_picture_66 rfl 0 rfl ?_
      refine j_callVi hJ (c_X5_twinCount (l := l) (D := D) (cy := cy) (ad := ad) hin) rfl om_950 ⟨rfl, rfl, Nat.le_of_ble_eq_true rfl, Nat.le_of_ble_eq_true rfl⟩ [] mv_X11_418 hd_X5_twinCountv (kP_0 hc4) rfl rfl rfl (Nat.le_of_ble_eq_true rfl) dX11_picture_67 ⟨c4, rfl, hc4, hF⟩ (fun r11 M12 gr11 qM12 => ?_)
      have hF := qM12 gr11
      exact j_iret hJ rfl gr11 dX11_picture_70 hF
    by_cases z13 : p2 = 3
    · refine j_tabIn hJ 54 71 gp2 dX11_picture_17 (by omega) (by omega) (by rw [z13]; decide) (by decide) ?_
      have hF := hF.2.2.2.1 z13
      refine j_aload_n hJ dX11_picture_71 rfl 0 rfl ?_
      refine j_aload_n hJ dX11_picture_72 rfl 1 rfl ?_
      refine j_ga hJ kC_0 fC_14_1 fl_X11_19 dX11_picture_73 ?_
      refine j_callVi hJ (c_X5_allSizes (l := l) (D := D) (cy := cy) (ad := ad) hin) rfl om_954 ⟨rfl, rfl, Nat.le_of_ble_eq_true rfl, Nat.le_of_ble_eq_true rfl⟩ [.ref (ad 8)] mv_X11_421 hd_X5_allSizesv (kP_0 hc4) rfl rfl rfl (Nat.le_of_ble_eq_true rfl) dX11_picture_76 ⟨c4, rfl, hc4, hF⟩ (fun r14 M15 gr14 qM15 => ?_)
      have hF := qM15 gr14
      exact j_iret hJ rfl gr14 dX11_picture_79 hF
    by_cases z16 : p2 = 4
    · refine j_tabIn hJ 63 80 gp2 dX11_picture_17 (by omega) (by omega) (by rw [z16]; decide) (by decide) ?_
      have hF := hF.2.2.2.2.1 z16
      refine j_aload_n hJ dX11_picture_80 rfl 0 rfl ?_
      refine j_aload_n hJ dX11_picture_81 rfl 1 rfl ?_
      refine j_ga hJ kC_0 fC_14_1 fl_X11_19 dX11_picture_82 ?_
      refine j_callVi hJ (c_X5_doubledSizes (l := l) (D := D) (cy := cy) (ad := ad) hin) rfl om_958 ⟨rfl, rfl, Nat.le_of_ble_eq_true rfl, Nat.le_of_ble_eq_true rfl⟩ [.ref (ad 8)] mv_X11_425 hd_X5_doubledSizesv (kP_0 hc4) rfl rfl rfl (Nat.le_of_ble_eq_true rfl) dX11_picture_85 ⟨c4, rfl, hc4, hF⟩ (fun r17 M18 gr17 qM18 => ?_)
      have hF := qM18 gr17
      exact j_iret hJ rfl gr17 dX11_picture_88 hF
    by_cases z19 : p2 = 5
    · refine j_tabIn hJ 72 89 gp2 dX11_picture_17 (by omega) (by omega) (by rw [z19]; decide) (by decide) ?_
      have hF := hF.2.2.2.2.2.1 z19
      refine j_aload_n hJ dX11_picture_89 rfl 0 rfl ?_
      refine j_gi hJ (kP_0 hc4) fC_8_0 rfl fl_X11_357 dX11_picture_90 (fun v20 ev20 gv20 => ?_)
      have hF := hF v20 ev20 gv20
      refine j_if_ne hJ 100 gv20 dX11_picture_93 (by decide) (fun z21 => ?_) (fun z21 => ?_)
      · have hF := hF.1 z21
        refine j_aload_n hJ dX11_picture_100 rfl 0 rfl ?_
        refine j_gr (e := (c4 + 5)) hJ (kP_0 hc4) fC_8_5 fl_X11_368 dX11_picture_101 rfl ?_
        refine j_aload_n hJ dX11_picture_104 rfl 0 rfl ?_
        refine j_gi hJ (kP_0 hc4) fC_8_0 rfl fl_X11_357 dX11_picture_105 (fun v22 ev22 gv22 => ?_)
        have hF := hF v22 ev22 gv22
        refine j_iconst hJ dX11_picture_108 ?_
        refine j_isub hJ dX11_picture_109 ?_
        have g23 := hF.1; have hF := hF.2
        refine j_iald hJ g23 (kP_5 hc4) hF.1 hF.2.1 dX11_picture_110 (fun v24 ev24 gv24 => ?_)
        have hF := hF.2.2 v24 ev24 gv24
        exact j_iret hJ rfl gv24 dX11_picture_111 hF
      · have hF := hF.2 z21
        refine j_iconst hJ dX11_picture_96 ?_
        refine j_goto hJ 111 dX11_picture_97 (by decide) ?_
        exact j_iret hJ rfl rk_m1 dX11_picture_111 hF
    have z25 : ¬ p2 = 0 ∧ ¬ p2 = 1 ∧ ¬ p2 = 2 ∧ ¬ p2 = 3 ∧ ¬ p2 = 4 ∧ ¬ p2 = 5 := ⟨z5, z7, z10, z13, z16, z19⟩
    have hF := hF.2.2.2.2.2.2 z25
    refine j_tabOut hJ 112 gp2 dX11_picture_17 (by omega) (by decide) ?_
    refine j_iload_n hJ dX11_picture_112 rfl 3 rfl ?_
    refine j_sipush hJ dX11_picture_113 (by decide) ?_
    refine j_icmp_lt hJ 152 gp2 rk_200 dX11_picture_116 (by decide) (fun z26 => ?_) (fun z26 => ?_)
    · have hF := hF.1 z26
      refine j_iload_n hJ dX11_picture_152 rfl 3 rfl ?_
      refine j_bipush hJ dX11_picture_153 (by decide) ?_
      refine j_icmp_lt hJ 183 gp2 rk_100 dX11_picture_155 (by decide) (fun z27 => ?_) (fun z27 => ?_)
      · have hF := hF.1 z27
        refine j_iconst hJ dX11_picture_183 ?_
        exact j_iret hJ rfl rk_m1 dX11_picture_184 hF
      · have hF := hF.2 z27
        refine j_aload_n hJ dX11_picture_158 rfl 1 rfl ?_
        refine j_ga hJ kC_0 fC_14_1 fl_X11_19 dX11_picture_159 ?_
        refine j_iload_n hJ dX11_picture_162 rfl 3 rfl ?_
        refine j_bipush hJ dX11_picture_163 (by decide) ?_
        refine j_isub hJ dX11_picture_165 ?_
        have g28 := hF.1; have hF := hF.2
        refine j_callVz hJ (c_X10_isClass (l := l) (D := D) (cy := cy) (ad := ad) hin) rfl om_52 ⟨rfl, rfl, Nat.le_of_ble_eq_true rfl, Nat.le_of_ble_eq_true rfl⟩ [.int (Ii (p2 - 100))] mv_X11_116 hd_X10_isClassv kC_8 rfl rfl rfl (Nat.le_of_ble_eq_true rfl) dX11_picture_166 ⟨(p2 - 100), rfl, g28, hF⟩ (fun r29 M30 gr29 qM30 => ?_)
        have hF := qM30 gr29
        refine j_if_eq hJ 183 (jz_ri gr29) dX11_picture_169 (by decide) (fun z31 => ?_) (fun z31 => ?_)
        · have hF := hF.1 z31
          refine j_iconst hJ dX11_picture_183 ?_
          exact j_iret hJ rfl rk_m1 dX11_picture_184 hF
        · have hF := hF.2 z31
          refine j_aload_n hJ dX11_picture_172 rfl 0 rfl ?_
          refine j_iload_n hJ dX11_picture_173 rfl 3 rfl ?_
          refine j_bipush hJ dX11_picture_174 (by decide) ?_
          refine j_isub hJ dX11_picture_176 ?_
          have g32 := hF.1; have hF := hF.2
          refine j_callVi hJ (c_X5_countOf (l := l) (D := D) (cy := cy) (ad := ad) hin) rfl om_962 ⟨rfl, rfl, Nat.le_of_ble_eq_true rfl, Nat.le_of_ble_eq_true rfl⟩ [.int (Ii (p2 - 100))] mv_X11_432 hd_X5_countOfv (kP_0 hc4) rfl rfl rfl (Nat.le_of_ble_eq_true rfl) dX11_picture_177 ⟨c4, (p2 - 100), rfl, hc4, g32, hF⟩ (fun r33 M34 gr33 qM34 => ?_)
          have hF := qM34 gr33
          refine j_goto hJ 184 dX11_picture_180 (by decide) ?_
          exact j_iret hJ rfl gr33 dX11_picture_184 hF
    · have hF := hF.2 z26
      refine j_aload_n hJ dX11_picture_119 rfl 1 rfl ?_
      refine j_ga hJ kC_0 fC_14_1 fl_X11_19 dX11_picture_120 ?_
      refine j_iload_n hJ dX11_picture_123 rfl 3 rfl ?_
      refine j_sipush hJ dX11_picture_124 (by decide) ?_
      refine j_isub hJ dX11_picture_127 ?_
      have g35 := hF.1; have hF := hF.2
      refine j_callVz hJ (c_X10_isClass (l := l) (D := D) (cy := cy) (ad := ad) hin) rfl om_52 ⟨rfl, rfl, Nat.le_of_ble_eq_true rfl, Nat.le_of_ble_eq_true rfl⟩ [.int (Ii (p2 - 200))] mv_X11_116 hd_X10_isClassv kC_8 rfl rfl rfl (Nat.le_of_ble_eq_true rfl) dX11_picture_128 ⟨(p2 - 200), rfl, g35, hF⟩ (fun r36 M37 gr36 qM37 => ?_)
      have hF := qM37 gr36
      refine j_if_eq hJ 150 (jz_ri gr36) dX11_picture_131 (by decide) (fun z38 => ?_) (fun z38 => ?_)
      · have hF := hF.1 z38
        refine j_iconst hJ dX11_picture_150 ?_
        exact j_iret hJ rfl rk_m1 dX11_picture_151 hF
      · have hF := hF.2 z38
        refine j_aload_n hJ dX11_picture_134 rfl 0 rfl ?_
        refine j_aload_n hJ dX11_picture_135 rfl 1 rfl ?_
        refine j_ga hJ kC_0 fC_14_1 fl_X11_19 dX11_picture_136 ?_
        refine j_iload_n hJ dX11_picture_139 rfl 3 rfl ?_
        refine j_sipush hJ dX11_picture_140 (by decide) ?_
        refine j_isub hJ dX11_picture_143 ?_
        have g39 := hF.1; have hF := hF.2
        refine j_callVi hJ (c_X5_countHeirs (l := l) (D := D) (cy := cy) (ad := ad) hin) rfl om_966 ⟨rfl, rfl, Nat.le_of_ble_eq_true rfl, Nat.le_of_ble_eq_true rfl⟩ [.ref (ad 8), .int (Ii (p2 - 200))] mv_X11_428 hd_X5_countHeirsv (kP_0 hc4) rfl rfl rfl (Nat.le_of_ble_eq_true rfl) dX11_picture_144 ⟨c4, (p2 - 200), rfl, hc4, g39, hF⟩ (fun r40 M41 gr40 qM41 => ?_)
        have hF := qM41 gr40
        refine j_goto hJ 151 dX11_picture_147 (by decide) ?_
        exact j_iret hJ rfl gr40 dX11_picture_151 hF
  · have hF := hF.2 z3
    refine j_iconst hJ dX11_picture_7 ?_
    exact j_iret hJ rfl rk_m1 dX11_picture_8 hF
def W_X11_member (ad : Nat → Nat) (Q : Int → MM → Prop) (X : String → MM → Prop) (av : List Value) (M : MM) : Prop := ∃ (p1 : Int) (p2 : Int) (p3 : Int) (p4 : Int), av = [.ref (ad 0), .int (Ii p1), .int (Ii p2), .int (Ii p3), .int (Ii p4)] ∧ ri_ p1 ∧ ri_ p2 ∧ ri_ p3 ∧ ri_ p4 ∧ w_X11_member  Q X p1 p2 p3 p4 M
set_option maxHeartbeats 4000000 in
set_option maxRecDepth 100000 in
theorem k_X11_member_b25 {l : Launch} {D : va_G} {cy : Nat → ClassId} {ad : Nat → Nat} {Q : Int → MM → Prop} {X : String → MM → Prop} {J : Nat → List (Nat × Value) → List Value → MM → Prop} (hst : l.stackTraces = false) (hin : jIn ad ksC.length)   (hJ : jOk l D vwCl (tyC cy) cy ad ftC ksC (XtC ad) Om RX11 cX11_member 6 1 ({ frames := 9, cells := 1, slots := 6, locals := 140 } : Room) Q J) (hT : jTh RX11 cX11_member Om ({ frames := 9, cells := 1, slots := 6, locals := 140 } : Room) ["java/util/NoSuchElementException"] X J)  : ∀ (M : MM), w_X11_member_b25  Q X   M → J 25 [] [] M := by
  intro  M  hF
  unfold w_X11_member_b25 at hF
  exact hT _ _ _ _ _ _ _ (by decide) (tw_X11_222_224 (Nat.le_of_ble_eq_true rfl) (Nat.le_of_ble_eq_true rfl)) dX11_member_25 dX11_member_28 dX11_member_29 dX11_member_32 hF
set_option maxHeartbeats 4000000 in
set_option maxRecDepth 100000 in
theorem k_X11_member_b64 {l : Launch} {D : va_G} {cy : Nat → ClassId} {ad : Nat → Nat} {Q : Int → MM → Prop} {X : String → MM → Prop} {J : Nat → List (Nat × Value) → List Value → MM → Prop} (hst : l.stackTraces = false) (hin : jIn ad ksC.length)   (hJ : jOk l D vwCl (tyC cy) cy ad ftC ksC (XtC ad) Om RX11 cX11_member 6 1 ({ frames := 9, cells := 1, slots := 6, locals := 140 } : Room) Q J) (hT : jTh RX11 cX11_member Om ({ frames := 9, cells := 1, slots := 6, locals := 140 } : Room) ["java/util/NoSuchElementException"] X J)  : ∀ (s0 : Int) (M : MM), ri_ s0 → w_X11_member_b64  Q X  s0 M → J 64 [] [.int (Ii s0)] M := by
  intro s0 M gs0 hF
  unfold w_X11_member_b64 at hF
  refine j_istore (lv' := [(5, .int (Ii s0))]) hJ dX11_member_64 (by decide) rfl ?_
  refine j_iload hJ dX11_member_66 0 rfl ?_
  refine j_iconst hJ dX11_member_68 ?_
  refine j_icmp_ne hJ 80 gs0 rk_m1 dX11_member_69 (by decide) (fun z1 => ?_) (fun z1 => ?_)
  · have hF := hF.1 z1
    refine j_iload hJ dX11_member_80 0 rfl ?_
    exact j_iret hJ rfl gs0 dX11_member_82 hF
  · have hF := hF.2 z1
    exact hT _ _ _ _ _ _ _ (by decide) (tw_X11_222_224 (Nat.le_of_ble_eq_true rfl) (Nat.le_of_ble_eq_true rfl)) dX11_member_72 dX11_member_75 dX11_member_76 dX11_member_79 hF
set_option maxHeartbeats 4000000 in
set_option maxRecDepth 100000 in
theorem c_X11_member {l : Launch} {D : va_G} {cy : Nat → ClassId} {ad : Nat → Nat} (hst : l.stackTraces = false) (hin : jIn ad ksC.length) : jXN l D vwCl (tyC cy) cy ad ftC ksC (XtC ad) yX11_member (.code yX11_member cX11_member 6 (some .int) :: Om) ({ frames := 9, cells := 1, slots := 6, locals := 140 } : Room) 1 1 6 ["java/util/NoSuchElementException"] (W_X11_member ad) := by
  refine jXN_of (y := yX11_member) (cc := cX11_member) (nL := 6) (rk := 1) (rm := ({ frames := 9, cells := 1, slots := 6, locals := 140 } : Room)) (own := RX11) 0 ["java/util/NoSuchElementException"] hst (XtC_z ad) (tyC_ok cy) hin (XtC_ok ad) Om_good (by decide) rfl ⟨rfl, rfl⟩ ?_
  intro Q X av M hF
  obtain ⟨p1, p2, p3, p4, rfl, gp1, gp2, gp3, gp4, hF⟩ := hF
  refine ⟨Nat.le_of_ble_eq_true rfl, fun J hJ hT hC => ?_⟩
  have hJ0 := hJ 0 (by decide)
  have hT0 := hT 0 (by decide)
  show J 0 0 [(0, .ref (ad 0)), (1, .int (Ii p1)), (2, .int (Ii p2)), (3, .int (Ii p3)), (4, .int (Ii p4))] [] M
  unfold w_X11_member at hF
  refine j_iload_n hJ0 dX11_member_0 rfl 1 rfl ?_
  refine j_callSz hJ0 (c_X11_isPicture (l := l) (D := D) (cy := cy) (ad := ad) hin) rfl om_912 ⟨rfl, rfl, Nat.le_of_ble_eq_true rfl, Nat.le_of_ble_eq_true rfl⟩ [.int (Ii p1)] mv_X11_412 hd_X11_isPicture rfl (Nat.le_of_ble_eq_true rfl) dX11_member_1 ⟨p1, rfl, gp1, hF⟩ (fun r1 M2 gr1 qM2 => ?_)
  have hF := qM2 gr1
  refine j_if_eq hJ0 25 (jz_ri gr1) dX11_member_4 (by decide) (fun z3 => ?_) (fun z3 => ?_)
  · have hF := hF.1 z3
    exact j_sub hJ0 [] rfl (k_X11_member_b25 hst hin  hJ0 hT0   _  hF)
  · have hF := hF.2 z3
    refine j_iload_n hJ0 dX11_member_7 rfl 2 rfl ?_
    refine j_if_lt hJ0 25 gp2 dX11_member_8 (by decide) (fun z4 => ?_) (fun z4 => ?_)
    · have hF := hF.1 z4
      exact j_sub hJ0 [] rfl (k_X11_member_b25 hst hin  hJ0 hT0   _  hF)
    · have hF := hF.2 z4
      refine j_iload_n hJ0 dX11_member_11 rfl 2 rfl ?_
      refine j_iconst hJ0 dX11_member_12 ?_
      refine j_icmp_gt hJ0 25 gp2 rk_1 dX11_member_13 (by decide) (fun z5 => ?_) (fun z5 => ?_)
      · have hF := hF.1 z5
        exact j_sub hJ0 [] rfl (k_X11_member_b25 hst hin  hJ0 hT0   _  hF)
      · have hF := hF.2 z5
        refine j_iload_n hJ0 dX11_member_16 rfl 3 rfl ?_
        refine j_if_lt hJ0 25 gp3 dX11_member_17 (by decide) (fun z6 => ?_) (fun z6 => ?_)
        · have hF := hF.1 z6
          exact j_sub hJ0 [] rfl (k_X11_member_b25 hst hin  hJ0 hT0   _  hF)
        · have hF := hF.2 z6
          refine j_iload hJ0 dX11_member_20 4 rfl ?_
          refine j_if_ge hJ0 33 gp4 dX11_member_22 (by decide) (fun z7 => ?_) (fun z7 => ?_)
          · have hF := hF.1 z7
            refine j_iload_n hJ0 dX11_member_33 rfl 2 rfl ?_
            refine j_if_ne hJ0 52 gp2 dX11_member_34 (by decide) (fun z8 => ?_) (fun z8 => ?_)
            · have hF := hF.1 z8
              refine j_aload_n hJ0 dX11_member_52 rfl 0 rfl ?_
              refine j_ga hJ0 kC_0 fC_14_4 fl_X11_41 dX11_member_53 ?_
              refine j_iload_n hJ0 dX11_member_56 rfl 1 rfl ?_
              obtain ⟨h0_, h1_, c9, ec9, hc9, hF⟩ := hF
              refine j_aald4 hJ0 gp1 kC_45 rfl h0_ h1_ ec9 dX11_member_57 ?_
              refine j_iload_n hJ0 dX11_member_58 rfl 3 rfl ?_
              refine j_iload hJ0 dX11_member_59 4 rfl ?_
              refine j_callVi hJ0 (c_X5_twinMember (l := l) (D := D) (cy := cy) (ad := ad) hin) rfl om_970 ⟨rfl, rfl, Nat.le_of_ble_eq_true rfl, Nat.le_of_ble_eq_true rfl⟩ [.int (Ii p3), .int (Ii p4)] mv_X11_436 hd_X5_twinMemberv (kP_0 hc9) rfl rfl rfl (Nat.le_of_ble_eq_true rfl) dX11_member_61 ⟨c9, p3, p4, rfl, hc9, gp3, gp4, hF⟩ (fun r10 M11 gr10 qM11 => ?_)
              have hF := qM11 gr10
              exact j_sub hJ0 [] rfl (k_X11_member_b64 hst hin  hJ0 hT0  r10 _ gr10 hF)
            · have hF := hF.2 z8
              refine j_aload_n hJ0 dX11_member_37 rfl 0 rfl ?_
              refine j_ga hJ0 kC_0 fC_14_4 fl_X11_41 dX11_member_38 ?_
              refine j_iload_n hJ0 dX11_member_41 rfl 1 rfl ?_
              obtain ⟨h0_, h1_, c12, ec12, hc12, hF⟩ := hF
              refine j_aald4 hJ0 gp1 kC_45 rfl h0_ h1_ ec12 dX11_member_42 ?_
              refine j_iload_n hJ0 dX11_member_43 rfl 3 rfl ?_
              refine j_iload hJ0 dX11_member_44 4 rfl ?_
              refine j_callVi hJ0 (c_X5_ringMember (l := l) (D := D) (cy := cy) (ad := ad) hin) rfl om_974 ⟨rfl, rfl, Nat.le_of_ble_eq_true rfl, Nat.le_of_ble_eq_true rfl⟩ [.int (Ii p3), .int (Ii p4)] mv_X11_433 hd_X5_ringMemberv (kP_0 hc12) rfl rfl rfl (Nat.le_of_ble_eq_true rfl) dX11_member_46 ⟨c12, p3, p4, rfl, hc12, gp3, gp4, hF⟩ (fun r13 M14 gr13 qM14 => ?_)
              have hF := qM14 gr13
              refine j_goto hJ0 64 dX11_member_49 (by decide) ?_
              exact j_sub hJ0 [] rfl (k_X11_member_b64 hst hin  hJ0 hT0  r13 _ gr13 hF)
          · have hF := hF.2 z7
            exact j_sub hJ0 [] rfl (k_X11_member_b25 hst hin  hJ0 hT0   _  hF)
def W_X11_choose (ad : Nat → Nat) (Q : Int → MM → Prop) (av : List Value) (M : MM) : Prop := ∃ (p1 : Int) (p2 : Int) (p3 : Int), av = [.ref (ad 0), .int (Ii p1), .int (Ii p2), .int (Ii p3)] ∧ ri_ p1 ∧ ri_ p2 ∧ (p3 = 0 ∨ p3 = 1) ∧ w_X11_choose  Q p1 p2 p3 M
set_option maxHeartbeats 4000000 in
set_option maxRecDepth 100000 in
theorem c_X11_choose {l : Launch} {D : va_G} {cy : Nat → ClassId} {ad : Nat → Nat} (hin : jIn ad ksC.length) : jCN l D vwCl (tyC cy) cy ad ftC ksC (XtC ad) yX11_choose (.code yX11_choose cX11_choose 4 (some .boolean) :: Om) ({ frames := 2, cells := 0, slots := 0, locals := 42 } : Room) 3 (W_X11_choose ad) := by
  refine jCN_of (y := yX11_choose) (cc := cX11_choose) (nL := 4) (rk := 3) (rm := ({ frames := 2, cells := 0, slots := 0, locals := 42 } : Room)) (own := RX11) (tyC_ok cy) hin (XtC_ok ad) Om_good (by decide) rfl ?_
  intro Q av M hF
  obtain ⟨p1, p2, p3, rfl, gp1, gp2, gp3, hF⟩ := hF
  refine ⟨Nat.le_of_ble_eq_true rfl, fun J hJ => ?_⟩
  show J 0 [(0, .ref (ad 0)), (1, .int (Ii p1)), (2, .int (Ii p2)), (3, .int (Ii p3))] [] M
  unfold w_X11_choose at hF
  refine j_aload_n hJ dX11_choose_0 rfl 0 rfl ?_
  refine j_iload_n hJ dX11_choose_1 rfl 1 rfl ?_
  refine j_iload_n hJ dX11_choose_2 rfl 2 rfl ?_
  refine j_callVz hJ (c_X11_isThing (l := l) (D := D) (cy := cy) (ad := ad) hin) rfl om_918 ⟨rfl, rfl, Nat.le_of_ble_eq_true rfl, Nat.le_of_ble_eq_true rfl⟩ [.int (Ii p1), .int (Ii p2)] mv_X11_360 hd_X11_isThingv kC_0 rfl rfl rfl (Nat.le_of_ble_eq_true rfl) dX11_choose_3 ⟨p1, p2, rfl, gp1, gp2, hF⟩ (fun r1 M2 gr1 qM2 => ?_)
  have hF := qM2 gr1
  refine j_if_ne hJ 11 (jz_ri gr1) dX11_choose_6 (by decide) (fun z3 => ?_) (fun z3 => ?_)
  · have hF := hF.1 z3
    refine j_aload_n hJ dX11_choose_11 rfl 0 rfl ?_
    refine j_ga hJ kC_0 fC_14_4 fl_X11_41 dX11_choose_12 ?_
    refine j_iload_n hJ dX11_choose_15 rfl 1 rfl ?_
    obtain ⟨h0_, h1_, c4, ec4, hc4, hF⟩ := hF
    refine j_aald4 hJ gp1 kC_45 rfl h0_ h1_ ec4 dX11_choose_16 ?_
    refine j_gr (e := (c4 + 13)) hJ (kP_0 hc4) fC_8_14 fl_X11_439 dX11_choose_17 rfl ?_
    refine j_iload_n hJ dX11_choose_20 rfl 2 rfl ?_
    refine j_iload_n hJ dX11_choose_21 rfl 3 rfl ?_
    refine j_zast hJ gp2 gp3 (kP_13 hc4) hF.1 hF.2.1 dX11_choose_22 (fun M5 eM5 => ?_)
    have hF := hF.2.2 M5 eM5
    refine j_iconst hJ dX11_choose_23 ?_
    exact j_zret hJ rfl (by decide) dX11_choose_24 hF
  · have hF := hF.2 z3
    refine j_iconst hJ dX11_choose_9 ?_
    exact j_zret hJ rfl (by decide) dX11_choose_10 hF
def W_X11_lost (ad : Nat → Nat) (Q : Int → MM → Prop) (X : String → MM → Prop) (av : List Value) (M : MM) : Prop := ∃ (p1 : Int), av = [.ref (ad 0), .int (Ii p1)] ∧ ri_ p1 ∧ w_X11_lost  Q X p1 M
set_option maxHeartbeats 4000000 in
set_option maxRecDepth 100000 in
theorem c_X11_lost {l : Launch} {D : va_G} {cy : Nat → ClassId} {ad : Nat → Nat} (hst : l.stackTraces = false) (hin : jIn ad ksC.length) : jXN l D vwCl (tyC cy) cy ad ftC ksC (XtC ad) yX11_lost (.code yX11_lost cX11_lost 2 (some .int) :: Om) ({ frames := 10, cells := 2, slots := 12, locals := 160 } : Room) 1 2 12 ["java/lang/IndexOutOfBoundsException"] (W_X11_lost ad) := by
  refine jXN_of (y := yX11_lost) (cc := cX11_lost) (nL := 2) (rk := 1) (rm := ({ frames := 10, cells := 2, slots := 12, locals := 160 } : Room)) (own := RX11) 1 ["java/lang/IndexOutOfBoundsException"] hst (XtC_z ad) (tyC_ok cy) hin (XtC_ok ad) Om_good (by decide) rfl ⟨rfl, rfl⟩ ?_
  intro Q X av M hF
  obtain ⟨p1, rfl, gp1, hF⟩ := hF
  refine ⟨Nat.le_of_ble_eq_true rfl, fun J hJ hT hC => ?_⟩
  have hJ0 := hJ 0 (by decide)
  have hT0 := hT 0 (by decide)
  have hJ1 := hJ 1 (by decide)
  have hT1 := hT 1 (by decide)
  have hC0 := hC 0 (by decide)
  show J 0 0 [(0, .ref (ad 0)), (1, .int (Ii p1))] [] M
  unfold w_X11_lost at hF
  refine j_iload_n hJ0 dX11_lost_0 rfl 1 rfl ?_
  refine hC0 _ _ _ _ _ _ _ _ _ _ _ X [.int (Ii p1)] _ _ _ (c_X11_needPicture (l := l) (D := D) (cy := cy) (ad := ad) hst hin) rfl om_915 ⟨rfl, rfl, Nat.le_of_ble_eq_true rfl, Nat.le_of_ble_eq_true rfl⟩ mv_X11_354 hd_X11_needPicture rfl (Nat.le_of_ble_eq_true rfl) dX11_lost_1 ⟨p1, rfl, gp1, hF⟩ (fun E M1 h8 h9 => ⟨by rw [List.mem_singleton.mp h8]; decide, h9⟩) (fun M1 qM1 => ?_)
  have hF := qM1
  refine j_aload_n hJ1 dX11_lost_4 rfl 0 rfl ?_
  refine j_ga hJ1 kC_0 fC_14_4 fl_X11_41 dX11_lost_5 ?_
  refine j_iload_n hJ1 dX11_lost_8 rfl 1 rfl ?_
  obtain ⟨h0_, h1_, c2, ec2, hc2, hF⟩ := hF
  refine j_aald4 hJ1 gp1 kC_45 rfl h0_ h1_ ec2 dX11_lost_9 ?_
  refine j_callVi hJ1 (c_X5_findLost (l := l) (D := D) (cy := cy) (ad := ad) hin) rfl om_978 ⟨rfl, rfl, Nat.le_of_ble_eq_true rfl, Nat.le_of_ble_eq_true rfl⟩ [] mv_X11_442 hd_X5_findLostv (kP_0 hc2) rfl rfl rfl (Nat.le_of_ble_eq_true rfl) dX11_lost_10 ⟨c2, rfl, hc2, hF⟩ (fun r3 M4 gr3 qM4 => ?_)
  have hF := qM4 gr3
  exact j_iret hJ1 rfl gr3 dX11_lost_13 hF
def W_X11_lostThing (ad : Nat → Nat) (Q : Int → MM → Prop) (av : List Value) (M : MM) : Prop := ∃ (p1 : Int) (p2 : Int), av = [.ref (ad 0), .int (Ii p1), .int (Ii p2)] ∧ ri_ p1 ∧ ri_ p2 ∧ w_X11_lostThing  Q p1 p2 M
set_option maxHeartbeats 4000000 in
set_option maxRecDepth 100000 in
theorem c_X11_lostThing {l : Launch} {D : va_G} {cy : Nat → ClassId} {ad : Nat → Nat} (hin : jIn ad ksC.length) : jCN l D vwCl (tyC cy) cy ad ftC ksC (XtC ad) yX11_lostThing (.code yX11_lostThing cX11_lostThing 3 (some .int) :: Om) ({ frames := 1, cells := 0, slots := 0, locals := 20 } : Room) 1 (W_X11_lostThing ad) := by
  refine jCN_of (y := yX11_lostThing) (cc := cX11_lostThing) (nL := 3) (rk := 1) (rm := ({ frames := 1, cells := 0, slots := 0, locals := 20 } : Room)) (own := RX11) (tyC_ok cy) hin (XtC_ok ad) Om_good (by decide) rfl ?_
  intro Q av M hF
  obtain ⟨p1, p2, rfl, gp1, gp2, hF⟩ := hF
  refine ⟨Nat.le_of_ble_eq_true rfl, fun J hJ => ?_⟩
  show J 0 [(0, .ref (ad 0)), (1, .int (Ii p1)), (2, .int (Ii p2))] [] M
  unfold w_X11_lostThing at hF
  refine j_iload_n hJ dX11_lostThing_0 rfl 1 rfl ?_
  refine j_callSz hJ (c_X11_isPicture (l := l) (D := D) (cy := cy) (ad := ad) hin) rfl om_912 ⟨rfl, rfl, Nat.le_of_ble_eq_true rfl, Nat.le_of_ble_eq_true rfl⟩ [.int (Ii p1)] mv_X11_412 hd_X11_isPicture rfl (Nat.le_of_ble_eq_true rfl) dX11_lostThing_1 ⟨p1, rfl, gp1, hF⟩ (fun r1 M2 gr1 qM2 => ?_)
  have hF := qM2 gr1
  refine j_if_eq hJ 38 (jz_ri gr1) dX11_lostThing_4 (by decide) (fun z3 => ?_) (fun z3 => ?_)
  · have hF := hF.1 z3
    refine j_iconst hJ dX11_lostThing_38 ?_
    exact j_iret hJ rfl rk_m1 dX11_lostThing_39 hF
  · have hF := hF.2 z3
    refine j_iload_n hJ dX11_lostThing_7 rfl 2 rfl ?_
    refine j_if_lt hJ 38 gp2 dX11_lostThing_8 (by decide) (fun z4 => ?_) (fun z4 => ?_)
    · have hF := hF.1 z4
      refine j_iconst hJ dX11_lostThing_38 ?_
      exact j_iret hJ rfl rk_m1 dX11_lostThing_39 hF
    · have hF := hF.2 z4
      refine j_iload_n hJ dX11_lostThing_11 rfl 2 rfl ?_
      refine j_aload_n hJ dX11_lostThing_12 rfl 0 rfl ?_
      refine j_ga hJ kC_0 fC_14_4 fl_X11_41 dX11_lostThing_13 ?_
      refine j_iload_n hJ dX11_lostThing_16 rfl 1 rfl ?_
      obtain ⟨h0_, h1_, c5, ec5, hc5, hF⟩ := hF
      refine j_aald4 hJ gp1 kC_45 rfl h0_ h1_ ec5 dX11_lostThing_17 ?_
      refine j_gi hJ (kP_0 hc5) fC_8_16 rfl fl_X11_445 dX11_lostThing_18 (fun v6 ev6 gv6 => ?_)
      have hF := hF v6 ev6 gv6
      refine j_icmp_ge hJ 38 gp2 gv6 dX11_lostThing_21 (by decide) (fun z7 => ?_) (fun z7 => ?_)
      · have hF := hF.1 z7
        refine j_iconst hJ dX11_lostThing_38 ?_
        exact j_iret hJ rfl rk_m1 dX11_lostThing_39 hF
      · have hF := hF.2 z7
        refine j_aload_n hJ dX11_lostThing_24 rfl 0 rfl ?_
        refine j_ga hJ kC_0 fC_14_4 fl_X11_41 dX11_lostThing_25 ?_
        refine j_iload_n hJ dX11_lostThing_28 rfl 1 rfl ?_
        obtain ⟨h0_, h1_, c8, ec8, hc8, hF⟩ := hF
        refine j_aald4 hJ gp1 kC_45 rfl h0_ h1_ ec8 dX11_lostThing_29 ?_
        refine j_gr (e := (c8 + 14)) hJ (kP_0 hc8) fC_8_15 fl_X11_448 dX11_lostThing_30 rfl ?_
        refine j_iload_n hJ dX11_lostThing_33 rfl 2 rfl ?_
        refine j_iald hJ gp2 (kP_14 hc8) hF.1 hF.2.1 dX11_lostThing_34 (fun v9 ev9 gv9 => ?_)
        have hF := hF.2.2 v9 ev9 gv9
        refine j_goto hJ 39 dX11_lostThing_35 (by decide) ?_
        exact j_iret hJ rfl gv9 dX11_lostThing_39 hF
def W_X11_growth (ad : Nat → Nat) (Q : Int → MM → Prop) (X : String → MM → Prop) (av : List Value) (M : MM) : Prop := ∃ (p1 : Int) (p2 : Int) (p3 : Int), av = [.ref (ad 0), .int (Ii p1), .int (Ii p2), .int (Ii p3)] ∧ ri_ p1 ∧ ri_ p2 ∧ ri_ p3 ∧ w_X11_growth  Q X p1 p2 p3 M
set_option maxHeartbeats 4000000 in
set_option maxRecDepth 100000 in
theorem k_X11_growth_b17 {l : Launch} {D : va_G} {cy : Nat → ClassId} {ad : Nat → Nat} {Q : Int → MM → Prop} {X : String → MM → Prop} {J : Nat → List (Nat × Value) → List Value → MM → Prop} (hst : l.stackTraces = false) (hin : jIn ad ksC.length)   (hJ : jOk l D vwCl (tyC cy) cy ad ftC ksC (XtC ad) Om RX11 cX11_growth 4 1 ({ frames := 10, cells := 3, slots := 18, locals := 160 } : Room) Q J) (hT : jTh RX11 cX11_growth Om ({ frames := 10, cells := 3, slots := 18, locals := 160 } : Room) ["java/lang/IndexOutOfBoundsException"] X J)  : ∀ (M : MM), w_X11_growth_b17  Q X   M → J 17 [] [] M := by
  intro  M  hF
  unfold w_X11_growth_b17 at hF
  exact hT _ _ _ _ _ _ _ (by decide) (tw_X11_120_122 (Nat.le_of_ble_eq_true rfl) (Nat.le_of_ble_eq_true rfl)) dX11_growth_17 dX11_growth_20 dX11_growth_21 dX11_growth_24 hF
set_option maxHeartbeats 4000000 in
set_option maxRecDepth 100000 in
theorem k_X11_growth_b109 {l : Launch} {D : va_G} {cy : Nat → ClassId} {ad : Nat → Nat} {Q : Int → MM → Prop} {X : String → MM → Prop} {J : Nat → List (Nat × Value) → List Value → MM → Prop} (hst : l.stackTraces = false) (hin : jIn ad ksC.length)   (hJ : jOk l D vwCl (tyC cy) cy ad ftC ksC (XtC ad) Om RX11 cX11_growth 4 1 ({ frames := 10, cells := 3, slots := 18, locals := 160 } : Room) Q J) (hT : jTh RX11 cX11_growth Om ({ frames := 10, cells := 3, slots := 18, locals := 160 } : Room) ["java/lang/IndexOutOfBoundsException"] X J)  : ∀ (M : MM), w_X11_growth_b109  Q X   M → J 109 [(0, .ref (ad 0))] [] M := by
  intro  M  hF
  unfold w_X11_growth_b109 at hF
  refine j_aload_n hJ dX11_growth_109 rfl 0 rfl ?_
  refine j_gi hJ kC_0 fC_14_15 rfl fl_X11_455 dX11_growth_110 (fun v1 ev1 gv1 => ?_)
  have hF := hF v1 ev1 gv1
  exact j_iret hJ rfl gv1 dX11_growth_113 hF
set_option maxHeartbeats 4000000 in
set_option maxRecDepth 100000 in
theorem c_X11_growth {l : Launch} {D : va_G} {cy : Nat → ClassId} {ad : Nat → Nat} (hst : l.stackTraces = false) (hin : jIn ad ksC.length) : jXN l D vwCl (tyC cy) cy ad ftC ksC (XtC ad) yX11_growth (.code yX11_growth cX11_growth 4 (some .int) :: Om) ({ frames := 10, cells := 3, slots := 18, locals := 160 } : Room) 1 3 18 ["java/lang/IndexOutOfBoundsException"] (W_X11_growth ad) := by
  refine jXN_of (y := yX11_growth) (cc := cX11_growth) (nL := 4) (rk := 1) (rm := ({ frames := 10, cells := 3, slots := 18, locals := 160 } : Room)) (own := RX11) 2 ["java/lang/IndexOutOfBoundsException"] hst (XtC_z ad) (tyC_ok cy) hin (XtC_ok ad) Om_good (by decide) rfl ⟨rfl, rfl⟩ ?_
  intro Q X av M hF
  obtain ⟨p1, p2, p3, rfl, gp1, gp2, gp3, hF⟩ := hF
  refine ⟨Nat.le_of_ble_eq_true rfl, fun J hJ hT hC => ?_⟩
  have hJ0 := hJ 0 (by decide)
  have hT0 := hT 0 (by decide)
  have hJ1 := hJ 1 (by decide)
  have hT1 := hT 1 (by decide)
  have hJ2 := hJ 2 (by decide)
  have hT2 := hT 2 (by decide)
  have hC0 := hC 0 (by decide)
  have hC1 := hC 1 (by decide)
  show J 0 0 [(0, .ref (ad 0)), (1, .int (Ii p1)), (2, .int (Ii p2)), (3, .int (Ii p3))] [] M
  unfold w_X11_growth at hF
  refine j_iload_n hJ0 dX11_growth_0 rfl 1 rfl ?_
  refine hC0 _ _ _ _ _ _ _ _ _ _ _ X [.int (Ii p1)] _ _ _ (c_X11_needPicture (l := l) (D := D) (cy := cy) (ad := ad) hst hin) rfl om_915 ⟨rfl, rfl, Nat.le_of_ble_eq_true rfl, Nat.le_of_ble_eq_true rfl⟩ mv_X11_354 hd_X11_needPicture rfl (Nat.le_of_ble_eq_true rfl) dX11_growth_1 ⟨p1, rfl, gp1, hF⟩ (fun E M1 h8 h9 => ⟨by rw [List.mem_singleton.mp h8]; decide, h9⟩) (fun M1 qM1 => ?_)
  have hF := qM1
  refine j_iload_n hJ1 dX11_growth_4 rfl 2 rfl ?_
  refine hC1 _ _ _ _ _ _ _ _ _ _ _ X [.int (Ii p2)] _ _ _ (c_X11_needPicture (l := l) (D := D) (cy := cy) (ad := ad) hst hin) rfl om_915 ⟨rfl, rfl, Nat.le_of_ble_eq_true rfl, Nat.le_of_ble_eq_true rfl⟩ mv_X11_354 hd_X11_needPicture rfl (Nat.le_of_ble_eq_true rfl) dX11_growth_5 ⟨p2, rfl, gp2, hF⟩ (fun E M1 h8 h9 => ⟨by rw [List.mem_singleton.mp h8]; decide, h9⟩) (fun M2 qM2 => ?_)
  have hF := qM2
  refine j_iload_n hJ2 dX11_growth_8 rfl 3 rfl ?_
  refine j_if_lt hJ2 17 gp3 dX11_growth_9 (by decide) (fun z3 => ?_) (fun z3 => ?_)
  · have hF := hF.1 z3
    exact j_sub hJ2 [] rfl (k_X11_growth_b17 hst hin  hJ2 hT2   _  hF)
  · have hF := hF.2 z3
    refine j_iload_n hJ2 dX11_growth_12 rfl 3 rfl ?_
    refine j_iconst hJ2 dX11_growth_13 ?_
    refine j_icmp_le hJ2 25 gp3 rk_2 dX11_growth_14 (by decide) (fun z4 => ?_) (fun z4 => ?_)
    · have hF := hF.1 z4
      refine j_iload_n hJ2 dX11_growth_25 rfl 3 rfl ?_
      refine j_if_ne hJ2 55 gp3 dX11_growth_26 (by decide) (fun z5 => ?_) (fun z5 => ?_)
      · have hF := hF.1 z5
        refine j_iload_n hJ2 dX11_growth_55 rfl 3 rfl ?_
        refine j_iconst hJ2 dX11_growth_56 ?_
        refine j_icmp_ne hJ2 86 gp3 rk_1 dX11_growth_57 (by decide) (fun z6 => ?_) (fun z6 => ?_)
        · have hF := hF.1 z6
          refine j_aload_n hJ2 dX11_growth_86 rfl 0 rfl ?_
          refine j_aload_n hJ2 dX11_growth_87 rfl 0 rfl ?_
          refine j_ga hJ2 kC_0 fC_14_4 fl_X11_41 dX11_growth_88 ?_
          refine j_iload_n hJ2 dX11_growth_91 rfl 2 rfl ?_
          obtain ⟨h0_, h1_, c7, ec7, hc7, hF⟩ := hF
          refine j_aald4 hJ2 gp2 kC_45 rfl h0_ h1_ ec7 dX11_growth_92 ?_
          refine j_aload_n hJ2 dX11_growth_93 rfl 0 rfl ?_
          refine j_ga hJ2 kC_0 fC_14_4 fl_X11_41 dX11_growth_94 ?_
          refine j_iload_n hJ2 dX11_growth_97 rfl 1 rfl ?_
          obtain ⟨h0_, h1_, c8, ec8, hc8, hF⟩ := hF
          refine j_aald4 hJ2 gp1 kC_45 rfl h0_ h1_ ec8 dX11_growth_98 ?_
          refine j_aload_n hJ2 dX11_growth_99 rfl 0 rfl ?_
          refine j_ga hJ2 kC_0 fC_14_14 fl_X11_95 dX11_growth_100 ?_
          refine j_callVi hJ2 (c_X5_listChanged (l := l) (D := D) (cy := cy) (ad := ad) hin) rfl om_982 ⟨rfl, rfl, Nat.le_of_ble_eq_true rfl, Nat.le_of_ble_eq_true rfl⟩ [.ref (ad c8), .ref (ad 285)] mv_X11_458 hd_X5_listChangedv (kP_0 hc7) rfl rfl rfl (Nat.le_of_ble_eq_true rfl) dX11_growth_103 ⟨c7, c8, 285, 400, rfl, hc7, hc8, kC_285, (by decide), hF⟩ (fun r9 M10 gr9 qM10 => ?_)
          have hF := qM10 gr9
          refine j_pi hJ2 gr9 kC_0 fC_14_15 rfl fp_X11_455 dX11_growth_106 (fun M11 eM11 => ?_)
          have hF := hF M11 eM11
          exact j_sub hJ2 [0] rfl (k_X11_growth_b109 hst hin  hJ2 hT2   _  hF)
        · have hF := hF.2 z6
          refine j_aload_n hJ2 dX11_growth_60 rfl 0 rfl ?_
          refine j_aload_n hJ2 dX11_growth_61 rfl 0 rfl ?_
          refine j_ga hJ2 kC_0 fC_14_4 fl_X11_41 dX11_growth_62 ?_
          refine j_iload_n hJ2 dX11_growth_65 rfl 1 rfl ?_
          obtain ⟨h0_, h1_, c12, ec12, hc12, hF⟩ := hF
          refine j_aald4 hJ2 gp1 kC_45 rfl h0_ h1_ ec12 dX11_growth_66 ?_
          refine j_aload_n hJ2 dX11_growth_67 rfl 0 rfl ?_
          refine j_ga hJ2 kC_0 fC_14_4 fl_X11_41 dX11_growth_68 ?_
          refine j_iload_n hJ2 dX11_growth_71 rfl 2 rfl ?_
          obtain ⟨h0_, h1_, c13, ec13, hc13, hF⟩ := hF
          refine j_aald4 hJ2 gp2 kC_45 rfl h0_ h1_ ec13 dX11_growth_72 ?_
          refine j_aload_n hJ2 dX11_growth_73 rfl 0 rfl ?_
          refine j_ga hJ2 kC_0 fC_14_14 fl_X11_95 dX11_growth_74 ?_
          refine j_callVi hJ2 (c_X5_listMissing (l := l) (D := D) (cy := cy) (ad := ad) hin) rfl om_986 ⟨rfl, rfl, Nat.le_of_ble_eq_true rfl, Nat.le_of_ble_eq_true rfl⟩ [.ref (ad c13), .ref (ad 285)] mv_X11_451 hd_X5_listMissingv (kP_0 hc12) rfl rfl rfl (Nat.le_of_ble_eq_true rfl) dX11_growth_77 ⟨c12, c13, 285, 400, rfl, hc12, hc13, kC_285, (by decide), hF⟩ (fun r14 M15 gr14 qM15 => ?_)
          have hF := qM15 gr14
          refine j_pi hJ2 gr14 kC_0 fC_14_15 rfl fp_X11_455 dX11_growth_80 (fun M16 eM16 => ?_)
          have hF := hF M16 eM16
          refine j_goto hJ2 109 dX11_growth_83 (by decide) ?_
          exact j_sub hJ2 [0] rfl (k_X11_growth_b109 hst hin  hJ2 hT2   _  hF)
      · have hF := hF.2 z5
        refine j_aload_n hJ2 dX11_growth_29 rfl 0 rfl ?_
        refine j_aload_n hJ2 dX11_growth_30 rfl 0 rfl ?_
        refine j_ga hJ2 kC_0 fC_14_4 fl_X11_41 dX11_growth_31 ?_
        refine j_iload_n hJ2 dX11_growth_34 rfl 2 rfl ?_
        obtain ⟨h0_, h1_, c17, ec17, hc17, hF⟩ := hF
        refine j_aald4 hJ2 gp2 kC_45 rfl h0_ h1_ ec17 dX11_growth_35 ?_
        refine j_aload_n hJ2 dX11_growth_36 rfl 0 rfl ?_
        refine j_ga hJ2 kC_0 fC_14_4 fl_X11_41 dX11_growth_37 ?_
        refine j_iload_n hJ2 dX11_growth_40 rfl 1 rfl ?_
        obtain ⟨h0_, h1_, c18, ec18, hc18, hF⟩ := hF
        refine j_aald4 hJ2 gp1 kC_45 rfl h0_ h1_ ec18 dX11_growth_41 ?_
        refine j_aload_n hJ2 dX11_growth_42 rfl 0 rfl ?_
        refine j_ga hJ2 kC_0 fC_14_14 fl_X11_95 dX11_growth_43 ?_
        refine j_callVi hJ2 (c_X5_listMissing (l := l) (D := D) (cy := cy) (ad := ad) hin) rfl om_986 ⟨rfl, rfl, Nat.le_of_ble_eq_true rfl, Nat.le_of_ble_eq_true rfl⟩ [.ref (ad c18), .ref (ad 285)] mv_X11_451 hd_X5_listMissingv (kP_0 hc17) rfl rfl rfl (Nat.le_of_ble_eq_true rfl) dX11_growth_46 ⟨c17, c18, 285, 400, rfl, hc17, hc18, kC_285, (by decide), hF⟩ (fun r19 M20 gr19 qM20 => ?_)
        have hF := qM20 gr19
        refine j_pi hJ2 gr19 kC_0 fC_14_15 rfl fp_X11_455 dX11_growth_49 (fun M21 eM21 => ?_)
        have hF := hF M21 eM21
        refine j_goto hJ2 109 dX11_growth_52 (by decide) ?_
        exact j_sub hJ2 [0] rfl (k_X11_growth_b109 hst hin  hJ2 hT2   _  hF)
    · have hF := hF.2 z4
      exact j_sub hJ2 [] rfl (k_X11_growth_b17 hst hin  hJ2 hT2   _  hF)
def W_X11_grown (ad : Nat → Nat) (Q : Int → MM → Prop) (av : List Value) (M : MM) : Prop := ∃ (p1 : Int), av = [.ref (ad 0), .int (Ii p1)] ∧ ri_ p1 ∧ w_X11_grown  Q p1 M
set_option maxHeartbeats 4000000 in
set_option maxRecDepth 100000 in
theorem c_X11_grown {l : Launch} {D : va_G} {cy : Nat → ClassId} {ad : Nat → Nat} (hin : jIn ad ksC.length) : jCN l D vwCl (tyC cy) cy ad ftC ksC (XtC ad) yX11_grown (.code yX11_grown cX11_grown 2 (some .int) :: Om) ({ frames := 0, cells := 0, slots := 0, locals := 0 } : Room) 1 (W_X11_grown ad) := by
  refine jCN_of (y := yX11_grown) (cc := cX11_grown) (nL := 2) (rk := 1) (rm := ({ frames := 0, cells := 0, slots := 0, locals := 0 } : Room)) (own := RX11) (tyC_ok cy) hin (XtC_ok ad) Om_good (by decide) rfl ?_
  intro Q av M hF
  obtain ⟨p1, rfl, gp1, hF⟩ := hF
  refine ⟨Nat.le_of_ble_eq_true rfl, fun J hJ => ?_⟩
  show J 0 [(0, .ref (ad 0)), (1, .int (Ii p1))] [] M
  unfold w_X11_grown at hF
  refine j_iload_n hJ dX11_grown_0 rfl 1 rfl ?_
  refine j_if_lt hJ 21 gp1 dX11_grown_1 (by decide) (fun z1 => ?_) (fun z1 => ?_)
  · have hF := hF.1 z1
    refine j_iconst hJ dX11_grown_21 ?_
    exact j_iret hJ rfl rk_m1 dX11_grown_22 hF
  · have hF := hF.2 z1
    refine j_iload_n hJ dX11_grown_4 rfl 1 rfl ?_
    refine j_aload_n hJ dX11_grown_5 rfl 0 rfl ?_
    refine j_gi hJ kC_0 fC_14_15 rfl fl_X11_455 dX11_grown_6 (fun v2 ev2 gv2 => ?_)
    have hF := hF v2 ev2 gv2
    refine j_icmp_ge hJ 21 gp1 gv2 dX11_grown_9 (by decide) (fun z3 => ?_) (fun z3 => ?_)
    · have hF := hF.1 z3
      refine j_iconst hJ dX11_grown_21 ?_
      exact j_iret hJ rfl rk_m1 dX11_grown_22 hF
    · have hF := hF.2 z3
      refine j_aload_n hJ dX11_grown_12 rfl 0 rfl ?_
      refine j_ga hJ kC_0 fC_14_14 fl_X11_95 dX11_grown_13 ?_
      refine j_iload_n hJ dX11_grown_16 rfl 1 rfl ?_
      refine j_iald hJ gp1 kC_285 hF.1 hF.2.1 dX11_grown_17 (fun v4 ev4 gv4 => ?_)
      have hF := hF.2.2 v4 ev4 gv4
      refine j_goto hJ 22 dX11_grown_18 (by decide) ?_
      exact j_iret hJ rfl gv4 dX11_grown_22 hF
def W_X11_like (ad : Nat → Nat) (Q : Int → MM → Prop) (X : String → MM → Prop) (av : List Value) (M : MM) : Prop := ∃ (p1 : Int) (p2 : Int) (p3 : Int) (p4 : Int), av = [.ref (ad 0), .int (Ii p1), .int (Ii p2), .int (Ii p3), .int (Ii p4)] ∧ ri_ p1 ∧ ri_ p2 ∧ ri_ p3 ∧ ri_ p4 ∧ w_X11_like  Q X p1 p2 p3 p4 M
set_option maxHeartbeats 4000000 in
set_option maxRecDepth 100000 in
theorem k_X11_like_b19 {l : Launch} {D : va_G} {cy : Nat → ClassId} {ad : Nat → Nat} {Q : Int → MM → Prop} {X : String → MM → Prop} {J : Nat → List (Nat × Value) → List Value → MM → Prop} (hst : l.stackTraces = false) (hin : jIn ad ksC.length)   (hJ : jOk l D vwCl (tyC cy) cy ad ftC ksC (XtC ad) Om RX11 cX11_like 5 3 ({ frames := 9, cells := 1, slots := 6, locals := 140 } : Room) Q J) (hT : jTh RX11 cX11_like Om ({ frames := 9, cells := 1, slots := 6, locals := 140 } : Room) ["java/util/NoSuchElementException"] X J)  : ∀ (M : MM), w_X11_like_b19  Q X   M → J 19 [] [] M := by
  intro  M  hF
  unfold w_X11_like_b19 at hF
  exact hT _ _ _ _ _ _ _ (by decide) (tw_X11_222_224 (Nat.le_of_ble_eq_true rfl) (Nat.le_of_ble_eq_true rfl)) dX11_like_19 dX11_like_22 dX11_like_23 dX11_like_26 hF
set_option maxHeartbeats 4000000 in
set_option maxRecDepth 100000 in
theorem c_X11_like {l : Launch} {D : va_G} {cy : Nat → ClassId} {ad : Nat → Nat} (hst : l.stackTraces = false) (hin : jIn ad ksC.length) : jXN l D vwCl (tyC cy) cy ad ftC ksC (XtC ad) yX11_like (.code yX11_like cX11_like 5 (some .boolean) :: Om) ({ frames := 9, cells := 1, slots := 6, locals := 140 } : Room) 3 1 6 ["java/util/NoSuchElementException"] (W_X11_like ad) := by
  refine jXN_of (y := yX11_like) (cc := cX11_like) (nL := 5) (rk := 3) (rm := ({ frames := 9, cells := 1, slots := 6, locals := 140 } : Room)) (own := RX11) 0 ["java/util/NoSuchElementException"] hst (XtC_z ad) (tyC_ok cy) hin (XtC_ok ad) Om_good (by decide) rfl ⟨rfl, rfl⟩ ?_
  intro Q X av M hF
  obtain ⟨p1, p2, p3, p4, rfl, gp1, gp2, gp3, gp4, hF⟩ := hF
  refine ⟨Nat.le_of_ble_eq_true rfl, fun J hJ hT hC => ?_⟩
  have hJ0 := hJ 0 (by decide)
  have hT0 := hT 0 (by decide)
  show J 0 0 [(0, .ref (ad 0)), (1, .int (Ii p1)), (2, .int (Ii p2)), (3, .int (Ii p3)), (4, .int (Ii p4))] [] M
  unfold w_X11_like at hF
  refine j_aload_n hJ0 dX11_like_0 rfl 0 rfl ?_
  refine j_iload_n hJ0 dX11_like_1 rfl 1 rfl ?_
  refine j_iload_n hJ0 dX11_like_2 rfl 2 rfl ?_
  refine j_callVz hJ0 (c_X11_isThing (l := l) (D := D) (cy := cy) (ad := ad) hin) rfl om_918 ⟨rfl, rfl, Nat.le_of_ble_eq_true rfl, Nat.le_of_ble_eq_true rfl⟩ [.int (Ii p1), .int (Ii p2)] mv_X11_360 hd_X11_isThingv kC_0 rfl rfl rfl (Nat.le_of_ble_eq_true rfl) dX11_like_3 ⟨p1, p2, rfl, gp1, gp2, hF⟩ (fun r1 M2 gr1 qM2 => ?_)
  have hF := qM2 gr1
  refine j_if_eq hJ0 19 (jz_ri gr1) dX11_like_6 (by decide) (fun z3 => ?_) (fun z3 => ?_)
  · have hF := hF.1 z3
    exact j_sub hJ0 [] rfl (k_X11_like_b19 hst hin  hJ0 hT0   _  hF)
  · have hF := hF.2 z3
    refine j_aload_n hJ0 dX11_like_9 rfl 0 rfl ?_
    refine j_iload_n hJ0 dX11_like_10 rfl 3 rfl ?_
    refine j_iload hJ0 dX11_like_11 4 rfl ?_
    refine j_callVz hJ0 (c_X11_isThing (l := l) (D := D) (cy := cy) (ad := ad) hin) rfl om_918 ⟨rfl, rfl, Nat.le_of_ble_eq_true rfl, Nat.le_of_ble_eq_true rfl⟩ [.int (Ii p3), .int (Ii p4)] mv_X11_360 hd_X11_isThingv kC_0 rfl rfl rfl (Nat.le_of_ble_eq_true rfl) dX11_like_13 ⟨p3, p4, rfl, gp3, gp4, hF⟩ (fun r4 M5 gr4 qM5 => ?_)
    have hF := qM5 gr4
    refine j_if_ne hJ0 27 (jz_ri gr4) dX11_like_16 (by decide) (fun z6 => ?_) (fun z6 => ?_)
    · have hF := hF.1 z6
      refine j_aload_n hJ0 dX11_like_27 rfl 0 rfl ?_
      refine j_ga hJ0 kC_0 fC_14_4 fl_X11_41 dX11_like_28 ?_
      refine j_iload_n hJ0 dX11_like_31 rfl 1 rfl ?_
      obtain ⟨h0_, h1_, c7, ec7, hc7, hF⟩ := hF
      refine j_aald4 hJ0 gp1 kC_45 rfl h0_ h1_ ec7 dX11_like_32 ?_
      refine j_iload_n hJ0 dX11_like_33 rfl 2 rfl ?_
      refine j_aload_n hJ0 dX11_like_34 rfl 0 rfl ?_
      refine j_ga hJ0 kC_0 fC_14_4 fl_X11_41 dX11_like_35 ?_
      refine j_iload_n hJ0 dX11_like_38 rfl 3 rfl ?_
      obtain ⟨h0_, h1_, c8, ec8, hc8, hF⟩ := hF
      refine j_aald4 hJ0 gp3 kC_45 rfl h0_ h1_ ec8 dX11_like_39 ?_
      refine j_iload hJ0 dX11_like_40 4 rfl ?_
      refine j_callVz hJ0 (c_X5_isLike (l := l) (D := D) (cy := cy) (ad := ad) hin) rfl om_990 ⟨rfl, rfl, Nat.le_of_ble_eq_true rfl, Nat.le_of_ble_eq_true rfl⟩ [.int (Ii p2), .ref (ad c8), .int (Ii p4)] mv_X11_461 hd_X5_isLikev (kP_0 hc7) rfl rfl rfl (Nat.le_of_ble_eq_true rfl) dX11_like_42 ⟨c7, p2, c8, p4, rfl, hc7, gp2, hc8, gp4, hF⟩ (fun r9 M10 gr9 qM10 => ?_)
      have hF := qM10 gr9
      exact j_zret hJ0 rfl gr9 dX11_like_45 hF
    · have hF := hF.2 z6
      exact j_sub hJ0 [] rfl (k_X11_like_b19 hst hin  hJ0 hT0   _  hF)
def W_X11_ask (ad : Nat → Nat) (Q : Int → MM → Prop) (X : String → MM → Prop) (av : List Value) (M : MM) : Prop := ∃ (p1 : Int), av = [.ref (ad 0), .int (Ii p1)] ∧ ri_ p1 ∧ w_X11_ask  Q X p1 M
set_option maxHeartbeats 4000000 in
set_option maxRecDepth 100000 in
theorem k_X11_ask_b76 {l : Launch} {D : va_G} {cy : Nat → ClassId} {ad : Nat → Nat} {Q : Int → MM → Prop} {X : String → MM → Prop} {J : Nat → List (Nat × Value) → List Value → MM → Prop} (hst : l.stackTraces = false) (hin : jIn ad ksC.length)   (hJ : jOk l D vwCl (tyC cy) cy ad ftC ksC (XtC ad) Om RX11 cX11_ask 3 1 ({ frames := 306, cells := 2, slots := 12, locals := 7354 } : Room) Q J) (hT : jTh RX11 cX11_ask Om ({ frames := 306, cells := 2, slots := 12, locals := 7354 } : Room) ["java/lang/IllegalArgumentException", "java/lang/IndexOutOfBoundsException"] X J)  : ∀ (M : MM), w_X11_ask_b76  Q X   M → J 76 [(0, .ref (ad 0))] [] M := by
  intro  M  hF
  unfold w_X11_ask_b76 at hF
  refine j_aload_n hJ dX11_ask_76 rfl 0 rfl ?_
  refine j_gi hJ kC_0 fC_14_16 rfl fl_X11_470 dX11_ask_77 (fun v1 ev1 gv1 => ?_)
  have hF := hF v1 ev1 gv1
  refine j_if_eq hJ 91 gv1 dX11_ask_80 (by decide) (fun z2 => ?_) (fun z2 => ?_)
  · have hF := hF.1 z2
    refine j_aload_n hJ dX11_ask_91 rfl 0 rfl ?_
    refine j_ga hJ kC_0 fC_14_7 fl_X11_62 dX11_ask_92 ?_
    refine j_gi hJ kC_219 fC_7_20 rfl fl_X11_465 dX11_ask_95 (fun v3 ev3 gv3 => ?_)
    have hF := hF v3 ev3 gv3
    exact j_iret hJ rfl gv3 dX11_ask_98 hF
  · have hF := hF.2 z2
    exact hT _ _ _ _ _ _ _ (by decide) (tw_X11_127_129 (Nat.le_of_ble_eq_true rfl) (Nat.le_of_ble_eq_true rfl)) dX11_ask_83 dX11_ask_86 dX11_ask_87 dX11_ask_90 hF
set_option maxHeartbeats 4000000 in
set_option maxRecDepth 100000 in
theorem c_X11_ask {l : Launch} {D : va_G} {cy : Nat → ClassId} {ad : Nat → Nat} (hst : l.stackTraces = false) (hin : jIn ad ksC.length) : jXN l D vwCl (tyC cy) cy ad ftC ksC (XtC ad) yX11_ask (.code yX11_ask cX11_ask 3 (some .int) :: Om) ({ frames := 306, cells := 2, slots := 12, locals := 7354 } : Room) 1 2 12 ["java/lang/IllegalArgumentException", "java/lang/IndexOutOfBoundsException"] (W_X11_ask ad) := by
  refine jXN_of (y := yX11_ask) (cc := cX11_ask) (nL := 3) (rk := 1) (rm := ({ frames := 306, cells := 2, slots := 12, locals := 7354 } : Room)) (own := RX11) 1 ["java/lang/IllegalArgumentException", "java/lang/IndexOutOfBoundsException"] hst (XtC_z ad) (tyC_ok cy) hin (XtC_ok ad) Om_good (by decide) rfl ⟨rfl, rfl⟩ ?_
  intro Q X av M hF
  obtain ⟨p1, rfl, gp1, hF⟩ := hF
  refine ⟨Nat.le_of_ble_eq_true rfl, fun J hJ hT hC => ?_⟩
  have hJ0 := hJ 0 (by decide)
  have hT0 := hT 0 (by decide)
  have hJ1 := hJ 1 (by decide)
  have hT1 := hT 1 (by decide)
  have hC0 := hC 0 (by decide)
  show J 0 0 [(0, .ref (ad 0)), (1, .int (Ii p1))] [] M
  unfold w_X11_ask at hF
  refine j_iload_n hJ0 dX11_ask_0 rfl 1 rfl ?_
  refine hC0 _ _ _ _ _ _ _ _ _ _ _ X [.int (Ii p1)] _ _ _ (c_X11_needPicture (l := l) (D := D) (cy := cy) (ad := ad) hst hin) rfl om_915 ⟨rfl, rfl, Nat.le_of_ble_eq_true rfl, Nat.le_of_ble_eq_true rfl⟩ mv_X11_354 hd_X11_needPicture rfl (Nat.le_of_ble_eq_true rfl) dX11_ask_1 ⟨p1, rfl, gp1, hF⟩ (fun E M1 h8 h9 => ⟨by rw [List.mem_singleton.mp h8]; decide, h9⟩) (fun M1 qM1 => ?_)
  have hF := qM1
  refine j_aload_n hJ1 dX11_ask_4 rfl 0 rfl ?_
  refine j_ga hJ1 kC_0 fC_14_7 fl_X11_62 dX11_ask_5 ?_
  refine j_iconst hJ1 dX11_ask_8 ?_
  refine j_pi hJ1 rk_0 kC_219 fC_7_20 rfl fp_X11_465 dX11_ask_9 (fun M2 eM2 => ?_)
  have hF := hF M2 eM2
  refine j_aload_n hJ1 dX11_ask_12 rfl 0 rfl ?_
  refine j_ga hJ1 kC_0 fC_14_6 fl_X11_55 dX11_ask_13 ?_
  refine j_callVz hJ1 (c_X6_readQuestion (l := l) (D := D) (cy := cy) (ad := ad) hin) rfl om_994 ⟨rfl, rfl, Nat.le_of_ble_eq_true rfl, Nat.le_of_ble_eq_true rfl⟩ [] mv_X11_467 hd_X6_readQuestionv kC_211 rfl rfl rfl (Nat.le_of_ble_eq_true rfl) dX11_ask_16 ⟨211, rfl, (isG_211), hF⟩ (fun r3 M4 gr3 qM4 => ?_)
  have hF := qM4 gr3
  refine j_istore_n (lv' := [(2, .int (Ii r3)), (0, .ref (ad 0)), (1, .int (Ii p1))]) hJ1 dX11_ask_19 rfl (by decide) rfl ?_
  refine j_aload_n hJ1 dX11_ask_20 rfl 1 rfl ?_
  refine j_aload_n hJ1 dX11_ask_21 rfl 1 rfl ?_
  refine j_ga hJ1 kC_0 fC_14_6 fl_X11_55 dX11_ask_22 ?_
  refine j_gi hJ1 kC_211 fC_9_6 rfl fl_X11_334 dX11_ask_25 (fun v5 ev5 gv5 => ?_)
  have hF := hF v5 ev5 gv5
  refine j_aload_n hJ1 dX11_ask_28 rfl 1 rfl ?_
  refine j_ga hJ1 kC_0 fC_14_6 fl_X11_55 dX11_ask_29 ?_
  refine j_gi hJ1 kC_211 fC_9_7 rfl fl_X11_337 dX11_ask_32 (fun v6 ev6 gv6 => ?_)
  have hF := hF v6 ev6 gv6
  refine j_callVv hJ1 (c_X11_tellFault (l := l) (D := D) (cy := cy) (ad := ad) hin) rfl om_908 ⟨rfl, rfl, Nat.le_of_ble_eq_true rfl, Nat.le_of_ble_eq_true rfl⟩ [.int (Ii v5), .int (Ii v6)] mv_X11_340 hd_X11_tellFaultv kC_0 rfl rfl rfl (Nat.le_of_ble_eq_true rfl) dX11_ask_35 ⟨v5, v6, rfl, gv5, gv6, hF⟩ (fun M8 qM8 => ?_)
  have hF := qM8
  refine j_iload_n hJ1 dX11_ask_38 rfl 0 rfl ?_
  refine j_if_eq hJ1 76 (jz_ri gr3) dX11_ask_39 (by decide) (fun z9 => ?_) (fun z9 => ?_)
  · have hF := hF.1 z9
    exact j_sub hJ1 [1] rfl (k_X11_ask_b76 hst hin  hJ1 hT1   _  hF)
  · have hF := hF.2 z9
    refine j_aload_n hJ1 dX11_ask_42 rfl 1 rfl ?_
    refine j_ga hJ1 kC_0 fC_14_7 fl_X11_62 dX11_ask_43 ?_
    refine j_aload_n hJ1 dX11_ask_46 rfl 1 rfl ?_
    refine j_ga hJ1 kC_0 fC_14_6 fl_X11_55 dX11_ask_47 ?_
    refine j_aload_n hJ1 dX11_ask_50 rfl 1 rfl ?_
    refine j_ga hJ1 kC_0 fC_14_4 fl_X11_41 dX11_ask_51 ?_
    refine j_iload_n hJ1 dX11_ask_54 rfl 2 rfl ?_
    obtain ⟨h0_, h1_, c10, ec10, hc10, hF⟩ := hF
    refine j_aald4 hJ1 gp1 kC_45 rfl h0_ h1_ ec10 dX11_ask_55 ?_
    refine j_callVz hJ1 (c_X4_run (l := l) (D := D) (cy := cy) (ad := ad) hin) rfl om_838 ⟨rfl, rfl, Nat.le_of_ble_eq_true rfl, Nat.le_of_ble_eq_true rfl⟩ [.ref (ad 211), .ref (ad c10)] mv_X11_347 hd_X4_runv kC_219 rfl rfl rfl (Nat.le_of_ble_eq_true rfl) dX11_ask_56 ⟨211, c10, rfl, (isG_211), hc10, hF⟩ (fun r11 M12 gr11 qM12 => ?_)
    have hF := qM12 gr11
    refine j_if_ne hJ1 76 (jz_ri gr11) dX11_ask_59 (by decide) (fun z13 => ?_) (fun z13 => ?_)
    · have hF := hF.1 z13
      exact j_sub hJ1 [1] rfl (k_X11_ask_b76 hst hin  hJ1 hT1   _  hF)
    · have hF := hF.2 z13
      refine j_aload_n hJ1 dX11_ask_62 rfl 1 rfl ?_
      refine j_ga hJ1 kC_0 fC_14_7 fl_X11_62 dX11_ask_63 ?_
      refine j_iconst hJ1 dX11_ask_66 ?_
      refine j_pi hJ1 rk_0 kC_219 fC_7_20 rfl fp_X11_465 dX11_ask_67 (fun M14 eM14 => ?_)
      have hF := hF M14 eM14
      refine j_aload_n hJ1 dX11_ask_70 rfl 1 rfl ?_
      refine j_iconst hJ1 dX11_ask_71 ?_
      refine j_iconst hJ1 dX11_ask_72 ?_
      refine j_callVv hJ1 (c_X11_tellFault (l := l) (D := D) (cy := cy) (ad := ad) hin) rfl om_908 ⟨rfl, rfl, Nat.le_of_ble_eq_true rfl, Nat.le_of_ble_eq_true rfl⟩ [.int (Ii 5), .int (Ii (-1))] mv_X11_340 hd_X11_tellFaultv kC_0 rfl rfl rfl (Nat.le_of_ble_eq_true rfl) dX11_ask_73 ⟨5, (-1), rfl, rk_5, rk_m1, hF⟩ (fun M16 qM16 => ?_)
      have hF := qM16
      exact j_sub hJ1 [1] rfl (k_X11_ask_b76 hst hin  hJ1 hT1   _  hF)
def W_X11_answer (ad : Nat → Nat) (Q : Int → MM → Prop) (X : String → MM → Prop) (av : List Value) (M : MM) : Prop := ∃ (p1 : Int) (p2 : Int), av = [.ref (ad 0), .int (Ii p1), .int (Ii p2)] ∧ ri_ p1 ∧ ri_ p2 ∧ w_X11_answer  Q X p1 p2 M
set_option maxHeartbeats 4000000 in
set_option maxRecDepth 100000 in
theorem k_X11_answer_b24 {l : Launch} {D : va_G} {cy : Nat → ClassId} {ad : Nat → Nat} {Q : Int → MM → Prop} {X : String → MM → Prop} {J : Nat → List (Nat × Value) → List Value → MM → Prop} (hst : l.stackTraces = false) (hin : jIn ad ksC.length)   (hJ : jOk l D vwCl (tyC cy) cy ad ftC ksC (XtC ad) Om RX11 cX11_answer 3 2 ({ frames := 9, cells := 1, slots := 6, locals := 140 } : Room) Q J) (hT : jTh RX11 cX11_answer Om ({ frames := 9, cells := 1, slots := 6, locals := 140 } : Room) ["java/util/NoSuchElementException"] X J)  : ∀ (M : MM), w_X11_answer_b24  Q X   M → J 24 [] [] M := by
  intro  M  hF
  unfold w_X11_answer_b24 at hF
  exact hT _ _ _ _ _ _ _ (by decide) (tw_X11_222_224 (Nat.le_of_ble_eq_true rfl) (Nat.le_of_ble_eq_true rfl)) dX11_answer_24 dX11_answer_27 dX11_answer_28 dX11_answer_31 hF
set_option maxHeartbeats 4000000 in
set_option maxRecDepth 100000 in
theorem c_X11_answer {l : Launch} {D : va_G} {cy : Nat → ClassId} {ad : Nat → Nat} (hst : l.stackTraces = false) (hin : jIn ad ksC.length) : jXN l D vwCl (tyC cy) cy ad ftC ksC (XtC ad) yX11_answer (.code yX11_answer cX11_answer 3 (some .long) :: Om) ({ frames := 9, cells := 1, slots := 6, locals := 140 } : Room) 2 1 6 ["java/util/NoSuchElementException"] (W_X11_answer ad) := by
  refine jXN_of (y := yX11_answer) (cc := cX11_answer) (nL := 3) (rk := 2) (rm := ({ frames := 9, cells := 1, slots := 6, locals := 140 } : Room)) (own := RX11) 0 ["java/util/NoSuchElementException"] hst (XtC_z ad) (tyC_ok cy) hin (XtC_ok ad) Om_good (by decide) rfl ⟨rfl, rfl⟩ ?_
  intro Q X av M hF
  obtain ⟨p1, p2, rfl, gp1, gp2, hF⟩ := hF
  refine ⟨Nat.le_of_ble_eq_true rfl, fun J hJ hT hC => ?_⟩
  have hJ0 := hJ 0 (by decide)
  have hT0 := hT 0 (by decide)
  show J 0 0 [(0, .ref (ad 0)), (1, .int (Ii p1)), (2, .int (Ii p2))] [] M
  unfold w_X11_answer at hF
  refine j_iload_n hJ0 dX11_answer_0 rfl 1 rfl ?_
  refine j_if_lt hJ0 24 gp1 dX11_answer_1 (by decide) (fun z1 => ?_) (fun z1 => ?_)
  · have hF := hF.1 z1
    exact j_sub hJ0 [] rfl (k_X11_answer_b24 hst hin  hJ0 hT0   _  hF)
  · have hF := hF.2 z1
    refine j_iload_n hJ0 dX11_answer_4 rfl 1 rfl ?_
    refine j_aload_n hJ0 dX11_answer_5 rfl 0 rfl ?_
    refine j_ga hJ0 kC_0 fC_14_7 fl_X11_62 dX11_answer_6 ?_
    refine j_gi hJ0 kC_219 fC_7_20 rfl fl_X11_465 dX11_answer_9 (fun v2 ev2 gv2 => ?_)
    have hF := hF v2 ev2 gv2
    refine j_icmp_ge hJ0 24 gp1 gv2 dX11_answer_12 (by decide) (fun z3 => ?_) (fun z3 => ?_)
    · have hF := hF.1 z3
      exact j_sub hJ0 [] rfl (k_X11_answer_b24 hst hin  hJ0 hT0   _  hF)
    · have hF := hF.2 z3
      refine j_iload_n hJ0 dX11_answer_15 rfl 2 rfl ?_
      refine j_if_lt hJ0 24 gp2 dX11_answer_16 (by decide) (fun z4 => ?_) (fun z4 => ?_)
      · have hF := hF.1 z4
        exact j_sub hJ0 [] rfl (k_X11_answer_b24 hst hin  hJ0 hT0   _  hF)
      · have hF := hF.2 z4
        refine j_iload_n hJ0 dX11_answer_19 rfl 2 rfl ?_
        refine j_iconst hJ0 dX11_answer_20 ?_
        refine j_icmp_le hJ0 32 gp2 rk_2 dX11_answer_21 (by decide) (fun z5 => ?_) (fun z5 => ?_)
        · have hF := hF.1 z5
          refine j_iload_n hJ0 dX11_answer_32 rfl 2 rfl ?_
          refine j_if_ne hJ0 47 gp2 dX11_answer_33 (by decide) (fun z6 => ?_) (fun z6 => ?_)
          · have hF := hF.1 z6
            refine j_iload_n hJ0 dX11_answer_47 rfl 2 rfl ?_
            refine j_iconst hJ0 dX11_answer_48 ?_
            refine j_icmp_ne hJ0 65 gp2 rk_1 dX11_answer_49 (by decide) (fun z7 => ?_) (fun z7 => ?_)
            · have hF := hF.1 z7
              refine j_aload_n hJ0 dX11_answer_65 rfl 0 rfl ?_
              refine j_ga hJ0 kC_0 fC_14_7 fl_X11_62 dX11_answer_66 ?_
              refine j_gr (e := 234) hJ0 kC_219 fC_7_19 fl_X11_479 dX11_answer_69 rfl ?_
              refine j_iload_n hJ0 dX11_answer_72 rfl 1 rfl ?_
              refine j_lald hJ0 gp1 kC_234 hF.1 hF.2.1 dX11_answer_73 (fun v8 ev8 gv8 => ?_)
              have hF := hF.2.2 v8 ev8 gv8
              exact j_lret hJ0 rfl gv8 dX11_answer_74 hF
            · have hF := hF.2 z7
              refine j_aload_n hJ0 dX11_answer_52 rfl 0 rfl ?_
              refine j_ga hJ0 kC_0 fC_14_7 fl_X11_62 dX11_answer_53 ?_
              refine j_gr (e := 233) hJ0 kC_219 fC_7_18 fl_X11_476 dX11_answer_56 rfl ?_
              refine j_iload_n hJ0 dX11_answer_59 rfl 1 rfl ?_
              refine j_iald hJ0 gp1 kC_233 hF.1 hF.2.1 dX11_answer_60 (fun v9 ev9 gv9 => ?_)
              have hF := hF.2.2 v9 ev9 gv9
              refine j_i2l hJ0 gv9 dX11_answer_61 ?_
              refine j_goto hJ0 74 dX11_answer_62 (by decide) ?_
              exact j_lret hJ0 rfl (rl_ri gv9) dX11_answer_74 hF
          · have hF := hF.2 z6
            refine j_aload_n hJ0 dX11_answer_36 rfl 0 rfl ?_
            refine j_ga hJ0 kC_0 fC_14_7 fl_X11_62 dX11_answer_37 ?_
            refine j_gr (e := 232) hJ0 kC_219 fC_7_17 fl_X11_473 dX11_answer_40 rfl ?_
            refine j_iload_n hJ0 dX11_answer_43 rfl 1 rfl ?_
            refine j_iald hJ0 gp1 kC_232 hF.1 hF.2.1 dX11_answer_44 (fun v10 ev10 gv10 => ?_)
            have hF := hF.2.2 v10 ev10 gv10
            refine j_i2l hJ0 gv10 dX11_answer_45 ?_
            exact j_lret hJ0 rfl (rl_ri gv10) dX11_answer_46 hF
        · have hF := hF.2 z5
          exact j_sub hJ0 [] rfl (k_X11_answer_b24 hst hin  hJ0 hT0   _  hF)
def W_X11_rules (ad : Nat → Nat) (Q : Int → MM → Prop) (X : String → MM → Prop) (av : List Value) (M : MM) : Prop := ∃ (p1 : Int), av = [.ref (ad 0), .int (Ii p1)] ∧ ri_ p1 ∧ w_X11_rules  Q X p1 M
set_option maxHeartbeats 4000000 in
set_option maxRecDepth 100000 in
theorem k_X11_rules_b86 {l : Launch} {D : va_G} {cy : Nat → ClassId} {ad : Nat → Nat} {Q : Int → MM → Prop} {X : String → MM → Prop} {J : Nat → List (Nat × Value) → List Value → MM → Prop} (hst : l.stackTraces = false) (hin : jIn ad ksC.length)   (hJ : jOk l D vwCl (tyC cy) cy ad ftC ksC (XtC ad) Om RX11 cX11_rules 5 1 ({ frames := 16, cells := 2, slots := 12, locals := 444 } : Room) Q J) (hT : jTh RX11 cX11_rules Om ({ frames := 16, cells := 2, slots := 12, locals := 444 } : Room) ["java/lang/IllegalArgumentException", "java/lang/IllegalStateException", "java/lang/IndexOutOfBoundsException"] X J)  : ∀ (x3 x4 : Int) (M : MM), ri_ x3 → ri_ x4 → w_X11_rules_b86  Q X  x3 x4 M → J 86 [(0, .ref (ad 0)), (3, .int (Ii x3)), (4, .int (Ii x4))] [] M := by
  have H9 : ∀ (n : Nat) (x3 x4 : Int) (M : MM), ri_ x3 → ri_ x4 → jit (fun _ _ _ => False) (wb_X11_rules_b86  Q X ) n x3 x4 M → J 86 [(0, .ref (ad 0)), (3, .int (Ii x3)), (4, .int (Ii x4))] [] M := by
    intro n
    induction n with
    | zero => intro x3 x4 M gx3 gx4 hF; exact False.elim hF
    | succ n ih =>
    intro x3 x4 M gx3 gx4 hF
    have hF : wb_X11_rules_b86  Q X  (jit (fun _ _ _ => False) (wb_X11_rules_b86  Q X ) n) x3 x4 M := hF
    unfold wb_X11_rules_b86 at hF
    refine j_iload hJ dX11_rules_86 2 rfl ?_
    refine j_aload_n hJ dX11_rules_88 rfl 0 rfl ?_
    refine j_ga hJ kC_0 fC_14_11 fl_X11_77 dX11_rules_89 ?_
    refine j_gi hJ kC_261 fC_10_16 rfl fl_X11_491 dX11_rules_92 (fun v1 ev1 gv1 => ?_)
    have hF := hF v1 ev1 gv1
    refine j_icmp_ge hJ 116 gx4 gv1 dX11_rules_95 (by decide) (fun z2 => ?_) (fun z2 => ?_)
    · have hF := hF.1 z2
      refine j_iload_n hJ dX11_rules_116 rfl 1 rfl ?_
      exact j_iret hJ rfl gx3 dX11_rules_117 hF
    · have hF := hF.2 z2
      refine j_iload_n hJ dX11_rules_98 rfl 1 rfl ?_
      refine j_aload_n hJ dX11_rules_99 rfl 0 rfl ?_
      refine j_ga hJ kC_0 fC_14_12 fl_X11_84 dX11_rules_100 ?_
      refine j_iload hJ dX11_rules_103 2 rfl ?_
      refine j_callVi hJ (c_X1_countOf (l := l) (D := D) (cy := cy) (ad := ad) hin) rfl om_1006 ⟨rfl, rfl, Nat.le_of_ble_eq_true rfl, Nat.le_of_ble_eq_true rfl⟩ [.int (Ii x4)] mv_X11_494 hd_X1_countOfv kC_274 rfl rfl rfl (Nat.le_of_ble_eq_true rfl) dX11_rules_105 ⟨x4, rfl, gx4, hF⟩ (fun r3 M4 gr3 qM4 => ?_)
      have hF := qM4 gr3
      refine j_iadd hJ dX11_rules_108 ?_
      have g5 := hF.1; have hF := hF.2
      refine j_istore_n (lv' := [(3, .int (Ii (x3 + r3))), (0, .ref (ad 0)), (4, .int (Ii x4))]) hJ dX11_rules_109 rfl (by decide) rfl ?_
      refine j_iinc (lv' := [(4, .int (Ii (x4 + 1))), (3, .int (Ii (x3 + r3))), (0, .ref (ad 0))]) (k := 2) hJ dX11_rules_110 rfl (by decide) rfl ?_
      have g6 := hF.1; have hF := hF.2
      refine j_goto hJ 86 dX11_rules_113 (by decide) ?_
      exact j_sub hJ [2, 1, 0] rfl (ih (x3 + r3) (x4 + 1) _ g5 g6 hF)
  intro x3 x4 M gx3 gx4 hF
  obtain ⟨n, hF⟩ := hF
  exact H9 n x3 x4 M gx3 gx4 hF
set_option maxHeartbeats 4000000 in
set_option maxRecDepth 100000 in
theorem c_X11_rules {l : Launch} {D : va_G} {cy : Nat → ClassId} {ad : Nat → Nat} (hst : l.stackTraces = false) (hin : jIn ad ksC.length) : jXN l D vwCl (tyC cy) cy ad ftC ksC (XtC ad) yX11_rules (.code yX11_rules cX11_rules 5 (some .int) :: Om) ({ frames := 16, cells := 2, slots := 12, locals := 444 } : Room) 1 2 12 ["java/lang/IllegalArgumentException", "java/lang/IllegalStateException", "java/lang/IndexOutOfBoundsException"] (W_X11_rules ad) := by
  refine jXN_of (y := yX11_rules) (cc := cX11_rules) (nL := 5) (rk := 1) (rm := ({ frames := 16, cells := 2, slots := 12, locals := 444 } : Room)) (own := RX11) 1 ["java/lang/IllegalArgumentException", "java/lang/IllegalStateException", "java/lang/IndexOutOfBoundsException"] hst (XtC_z ad) (tyC_ok cy) hin (XtC_ok ad) Om_good (by decide) rfl ⟨rfl, rfl⟩ ?_
  intro Q X av M hF
  obtain ⟨p1, rfl, gp1, hF⟩ := hF
  refine ⟨Nat.le_of_ble_eq_true rfl, fun J hJ hT hC => ?_⟩
  have hJ0 := hJ 0 (by decide)
  have hT0 := hT 0 (by decide)
  have hJ1 := hJ 1 (by decide)
  have hT1 := hT 1 (by decide)
  have hC0 := hC 0 (by decide)
  show J 0 0 [(0, .ref (ad 0)), (1, .int (Ii p1))] [] M
  unfold w_X11_rules at hF
  refine j_iload_n hJ0 dX11_rules_0 rfl 1 rfl ?_
  refine hC0 _ _ _ _ _ _ _ _ _ _ _ X [.int (Ii p1)] _ _ _ (c_X11_needPicture (l := l) (D := D) (cy := cy) (ad := ad) hst hin) rfl om_915 ⟨rfl, rfl, Nat.le_of_ble_eq_true rfl, Nat.le_of_ble_eq_true rfl⟩ mv_X11_354 hd_X11_needPicture rfl (Nat.le_of_ble_eq_true rfl) dX11_rules_1 ⟨p1, rfl, gp1, hF⟩ (fun E M1 h8 h9 => ⟨by rw [List.mem_singleton.mp h8]; decide, h9⟩) (fun M1 qM1 => ?_)
  have hF := qM1
  refine j_aload_n hJ1 dX11_rules_4 rfl 0 rfl ?_
  refine j_ga hJ1 kC_0 fC_14_4 fl_X11_41 dX11_rules_5 ?_
  refine j_iload_n hJ1 dX11_rules_8 rfl 1 rfl ?_
  obtain ⟨h0_, h1_, c2, ec2, hc2, hF⟩ := hF
  refine j_aald4 hJ1 gp1 kC_45 rfl h0_ h1_ ec2 dX11_rules_9 ?_
  refine j_gi hJ1 (kP_0 hc2) fC_8_0 rfl fl_X11_357 dX11_rules_10 (fun v3 ev3 gv3 => ?_)
  have hF := hF v3 ev3 gv3
  refine j_bipush hJ1 dX11_rules_13 (by decide) ?_
  refine j_icmp_le hJ1 26 gv3 rk_40 dX11_rules_15 (by decide) (fun z4 => ?_) (fun z4 => ?_)
  · have hF := hF.1 z4
    refine j_aload_n hJ1 dX11_rules_26 rfl 0 rfl ?_
    refine j_ga hJ1 kC_0 fC_14_11 fl_X11_77 dX11_rules_27 ?_
    refine j_callVz hJ1 (c_X7_readAll (l := l) (D := D) (cy := cy) (ad := ad) hin) rfl om_998 ⟨rfl, rfl, Nat.le_of_ble_eq_true rfl, Nat.le_of_ble_eq_true rfl⟩ [] mv_X11_482 hd_X7_readAllv kC_261 rfl rfl rfl (Nat.le_of_ble_eq_true rfl) dX11_rules_30 ⟨rfl, hF⟩ (fun r5 M6 gr5 qM6 => ?_)
    have hF := qM6 gr5
    refine j_istore_n (lv' := [(2, .int (Ii r5)), (0, .ref (ad 0)), (1, .int (Ii p1))]) hJ1 dX11_rules_33 rfl (by decide) rfl ?_
    refine j_aload_n hJ1 dX11_rules_34 rfl 1 rfl ?_
    refine j_aload_n hJ1 dX11_rules_35 rfl 1 rfl ?_
    refine j_ga hJ1 kC_0 fC_14_11 fl_X11_77 dX11_rules_36 ?_
    refine j_gi hJ1 kC_261 fC_10_19 rfl fl_X11_485 dX11_rules_39 (fun v7 ev7 gv7 => ?_)
    have hF := hF v7 ev7 gv7
    refine j_aload_n hJ1 dX11_rules_42 rfl 1 rfl ?_
    refine j_ga hJ1 kC_0 fC_14_11 fl_X11_77 dX11_rules_43 ?_
    refine j_gi hJ1 kC_261 fC_10_20 rfl fl_X11_486 dX11_rules_46 (fun v8 ev8 gv8 => ?_)
    have hF := hF v8 ev8 gv8
    refine j_callVv hJ1 (c_X11_tellFault (l := l) (D := D) (cy := cy) (ad := ad) hin) rfl om_908 ⟨rfl, rfl, Nat.le_of_ble_eq_true rfl, Nat.le_of_ble_eq_true rfl⟩ [.int (Ii v7), .int (Ii v8)] mv_X11_340 hd_X11_tellFaultv kC_0 rfl rfl rfl (Nat.le_of_ble_eq_true rfl) dX11_rules_49 ⟨v7, v8, rfl, gv7, gv8, hF⟩ (fun M10 qM10 => ?_)
    have hF := qM10
    refine j_iload_n hJ1 dX11_rules_52 rfl 0 rfl ?_
    refine j_if_ne hJ1 64 (jz_ri gr5) dX11_rules_53 (by decide) (fun z11 => ?_) (fun z11 => ?_)
    · have hF := hF.1 z11
      refine j_aload_n hJ1 dX11_rules_64 rfl 1 rfl ?_
      refine j_ga hJ1 kC_0 fC_14_12 fl_X11_84 dX11_rules_65 ?_
      refine j_aload_n hJ1 dX11_rules_68 rfl 1 rfl ?_
      refine j_ga hJ1 kC_0 fC_14_11 fl_X11_77 dX11_rules_69 ?_
      refine j_aload_n hJ1 dX11_rules_72 rfl 1 rfl ?_
      refine j_ga hJ1 kC_0 fC_14_4 fl_X11_41 dX11_rules_73 ?_
      refine j_iload_n hJ1 dX11_rules_76 rfl 2 rfl ?_
      obtain ⟨h0_, h1_, c12, ec12, hc12, hF⟩ := hF
      refine j_aald4 hJ1 gp1 kC_45 rfl h0_ h1_ ec12 dX11_rules_77 ?_
      refine j_callVv hJ1 (c_X1_workOut (l := l) (D := D) (cy := cy) (ad := ad) hin) rfl om_1002 ⟨rfl, rfl, Nat.le_of_ble_eq_true rfl, Nat.le_of_ble_eq_true rfl⟩ [.ref (ad 261), .ref (ad c12)] mv_X11_487 hd_X1_workOutv kC_274 rfl rfl rfl (Nat.le_of_ble_eq_true rfl) dX11_rules_78 ⟨c12, rfl, hc12, hF⟩ (fun M14 qM14 => ?_)
      have hF := qM14
      refine j_iconst hJ1 dX11_rules_81 ?_
      refine j_istore_n (lv' := [(3, .int (Ii 0)), (2, .int (Ii r5)), (0, .ref (ad 0)), (1, .int (Ii p1))]) hJ1 dX11_rules_82 rfl (by decide) rfl ?_
      refine j_iconst hJ1 dX11_rules_83 ?_
      refine j_istore (lv' := [(4, .int (Ii 0)), (3, .int (Ii 0)), (2, .int (Ii r5)), (0, .ref (ad 0)), (1, .int (Ii p1))]) hJ1 dX11_rules_84 (by decide) rfl ?_
      exact j_sub hJ1 [3, 1, 0] rfl (k_X11_rules_b86 hst hin  hJ1 hT1  0 0 _ rk_0 rk_0 hF)
    · have hF := hF.2 z11
      exact hT1 _ _ _ _ _ _ _ (by decide) (tw_X11_127_129 (Nat.le_of_ble_eq_true rfl) (Nat.le_of_ble_eq_true rfl)) dX11_rules_56 dX11_rules_59 dX11_rules_60 dX11_rules_63 hF
  · have hF := hF.2 z4
    exact hT1 _ _ _ _ _ _ _ (by decide) (tw_X11_137_139 (Nat.le_of_ble_eq_true rfl) (Nat.le_of_ble_eq_true rfl)) dX11_rules_18 dX11_rules_21 dX11_rules_22 dX11_rules_25 hF
def W_X11_facts (ad : Nat → Nat) (Q : Int → MM → Prop) (av : List Value) (M : MM) : Prop := ∃ (p1 : Int), av = [.ref (ad 0), .int (Ii p1)] ∧ ri_ p1 ∧ w_X11_facts  Q p1 M
set_option maxHeartbeats 4000000 in
set_option maxRecDepth 100000 in
theorem c_X11_facts {l : Launch} {D : va_G} {cy : Nat → ClassId} {ad : Nat → Nat} (hin : jIn ad ksC.length) : jCN l D vwCl (tyC cy) cy ad ftC ksC (XtC ad) yX11_facts (.code yX11_facts cX11_facts 2 (some .int) :: Om) ({ frames := 2, cells := 0, slots := 0, locals := 44 } : Room) 1 (W_X11_facts ad) := by
  refine jCN_of (y := yX11_facts) (cc := cX11_facts) (nL := 2) (rk := 1) (rm := ({ frames := 2, cells := 0, slots := 0, locals := 44 } : Room)) (own := RX11) (tyC_ok cy) hin (XtC_ok ad) Om_good (by decide) rfl ?_
  intro Q av M hF
  obtain ⟨p1, rfl, gp1, hF⟩ := hF
  refine ⟨Nat.le_of_ble_eq_true rfl, fun J hJ => ?_⟩
  show J 0 [(0, .ref (ad 0)), (1, .int (Ii p1))] [] M
  unfold w_X11_facts at hF
  refine j_iload_n hJ dX11_facts_0 rfl 1 rfl ?_
  refine j_if_lt hJ 26 gp1 dX11_facts_1 (by decide) (fun z1 => ?_) (fun z1 => ?_)
  · have hF := hF.1 z1
    refine j_iconst hJ dX11_facts_26 ?_
    exact j_iret hJ rfl rk_m1 dX11_facts_27 hF
  · have hF := hF.2 z1
    refine j_iload_n hJ dX11_facts_4 rfl 1 rfl ?_
    refine j_aload_n hJ dX11_facts_5 rfl 0 rfl ?_
    refine j_ga hJ kC_0 fC_14_11 fl_X11_77 dX11_facts_6 ?_
    refine j_gi hJ kC_261 fC_10_16 rfl fl_X11_491 dX11_facts_9 (fun v2 ev2 gv2 => ?_)
    have hF := hF v2 ev2 gv2
    refine j_icmp_ge hJ 26 gp1 gv2 dX11_facts_12 (by decide) (fun z3 => ?_) (fun z3 => ?_)
    · have hF := hF.1 z3
      refine j_iconst hJ dX11_facts_26 ?_
      exact j_iret hJ rfl rk_m1 dX11_facts_27 hF
    · have hF := hF.2 z3
      refine j_aload_n hJ dX11_facts_15 rfl 0 rfl ?_
      refine j_ga hJ kC_0 fC_14_12 fl_X11_84 dX11_facts_16 ?_
      refine j_iload_n hJ dX11_facts_19 rfl 1 rfl ?_
      refine j_callVi hJ (c_X1_countOf (l := l) (D := D) (cy := cy) (ad := ad) hin) rfl om_1006 ⟨rfl, rfl, Nat.le_of_ble_eq_true rfl, Nat.le_of_ble_eq_true rfl⟩ [.int (Ii p1)] mv_X11_494 hd_X1_countOfv kC_274 rfl rfl rfl (Nat.le_of_ble_eq_true rfl) dX11_facts_20 ⟨p1, rfl, gp1, hF⟩ (fun r4 M5 gr4 qM5 => ?_)
      have hF := qM5 gr4
      refine j_goto hJ 27 dX11_facts_23 (by decide) ?_
      exact j_iret hJ rfl gr4 dX11_facts_27 hF
def W_X11_isFact (ad : Nat → Nat) (Q : Int → MM → Prop) (X : String → MM → Prop) (av : List Value) (M : MM) : Prop := ∃ (p1 : Int) (p2 : Int) (p3 : Int), av = [.ref (ad 0), .int (Ii p1), .int (Ii p2), .int (Ii p3)] ∧ ri_ p1 ∧ ri_ p2 ∧ ri_ p3 ∧ w_X11_isFact  Q X p1 p2 p3 M
set_option maxHeartbeats 4000000 in
set_option maxRecDepth 100000 in
theorem k_X11_isFact_b15 {l : Launch} {D : va_G} {cy : Nat → ClassId} {ad : Nat → Nat} {Q : Int → MM → Prop} {X : String → MM → Prop} {J : Nat → List (Nat × Value) → List Value → MM → Prop} (hst : l.stackTraces = false) (hin : jIn ad ksC.length)   (hJ : jOk l D vwCl (tyC cy) cy ad ftC ksC (XtC ad) Om RX11 cX11_isFact 4 3 ({ frames := 9, cells := 1, slots := 6, locals := 140 } : Room) Q J) (hT : jTh RX11 cX11_isFact Om ({ frames := 9, cells := 1, slots := 6, locals := 140 } : Room) ["java/util/NoSuchElementException"] X J)  : ∀ (M : MM), w_X11_isFact_b15  Q X   M → J 15 [] [] M := by
  intro  M  hF
  unfold w_X11_isFact_b15 at hF
  exact hT _ _ _ _ _ _ _ (by decide) (tw_X11_222_224 (Nat.le_of_ble_eq_true rfl) (Nat.le_of_ble_eq_true rfl)) dX11_isFact_15 dX11_isFact_18 dX11_isFact_19 dX11_isFact_22 hF
set_option maxHeartbeats 4000000 in
set_option maxRecDepth 100000 in
theorem k_X11_isFact_b47 {l : Launch} {D : va_G} {cy : Nat → ClassId} {ad : Nat → Nat} {Q : Int → MM → Prop} {X : String → MM → Prop} {J : Nat → List (Nat × Value) → List Value → MM → Prop} (hst : l.stackTraces = false) (hin : jIn ad ksC.length)   (hJ : jOk l D vwCl (tyC cy) cy ad ftC ksC (XtC ad) Om RX11 cX11_isFact 4 3 ({ frames := 9, cells := 1, slots := 6, locals := 140 } : Room) Q J) (hT : jTh RX11 cX11_isFact Om ({ frames := 9, cells := 1, slots := 6, locals := 140 } : Room) ["java/util/NoSuchElementException"] X J)  : ∀ (s0 s1 s2 : Int) (M : MM), ri_ s0 → ri_ s1 → ri_ s2 → w_X11_isFact_b47  Q X  s0 s1 s2 M → J 47 [] [.int (Ii s0), .int (Ii s1), .int (Ii s2), .ref (ad 274)] M := by
  intro s0 s1 s2 M gs0 gs1 gs2 hF
  unfold w_X11_isFact_b47 at hF
  refine j_callVz hJ (c_X1_has (l := l) (D := D) (cy := cy) (ad := ad) hin) rfl om_1010 ⟨rfl, rfl, Nat.le_of_ble_eq_true rfl, Nat.le_of_ble_eq_true rfl⟩ [.int (Ii s2), .int (Ii s1), .int (Ii s0)] mv_X11_498 hd_X1_hasv kC_274 rfl rfl rfl (Nat.le_of_ble_eq_true rfl) dX11_isFact_47 ⟨s2, s1, s0, rfl, gs2, gs1, gs0, hF⟩ (fun r1 M2 gr1 qM2 => ?_)
  have hF := qM2 gr1
  exact j_zret hJ rfl gr1 dX11_isFact_50 hF
set_option maxHeartbeats 4000000 in
set_option maxRecDepth 100000 in
theorem c_X11_isFact {l : Launch} {D : va_G} {cy : Nat → ClassId} {ad : Nat → Nat} (hst : l.stackTraces = false) (hin : jIn ad ksC.length) : jXN l D vwCl (tyC cy) cy ad ftC ksC (XtC ad) yX11_isFact (.code yX11_isFact cX11_isFact 4 (some .boolean) :: Om) ({ frames := 9, cells := 1, slots := 6, locals := 140 } : Room) 3 1 6 ["java/util/NoSuchElementException"] (W_X11_isFact ad) := by
  refine jXN_of (y := yX11_isFact) (cc := cX11_isFact) (nL := 4) (rk := 3) (rm := ({ frames := 9, cells := 1, slots := 6, locals := 140 } : Room)) (own := RX11) 0 ["java/util/NoSuchElementException"] hst (XtC_z ad) (tyC_ok cy) hin (XtC_ok ad) Om_good (by decide) rfl ⟨rfl, rfl⟩ ?_
  intro Q X av M hF
  obtain ⟨p1, p2, p3, rfl, gp1, gp2, gp3, hF⟩ := hF
  refine ⟨Nat.le_of_ble_eq_true rfl, fun J hJ hT hC => ?_⟩
  have hJ0 := hJ 0 (by decide)
  have hT0 := hT 0 (by decide)
  show J 0 0 [(0, .ref (ad 0)), (1, .int (Ii p1)), (2, .int (Ii p2)), (3, .int (Ii p3))] [] M
  unfold w_X11_isFact at hF
  refine j_iload_n hJ0 dX11_isFact_0 rfl 1 rfl ?_
  refine j_if_lt hJ0 15 gp1 dX11_isFact_1 (by decide) (fun z1 => ?_) (fun z1 => ?_)
  · have hF := hF.1 z1
    exact j_sub hJ0 [] rfl (k_X11_isFact_b15 hst hin  hJ0 hT0   _  hF)
  · have hF := hF.2 z1
    refine j_iload_n hJ0 dX11_isFact_4 rfl 1 rfl ?_
    refine j_aload_n hJ0 dX11_isFact_5 rfl 0 rfl ?_
    refine j_ga hJ0 kC_0 fC_14_11 fl_X11_77 dX11_isFact_6 ?_
    refine j_gi hJ0 kC_261 fC_10_16 rfl fl_X11_491 dX11_isFact_9 (fun v2 ev2 gv2 => ?_)
    have hF := hF v2 ev2 gv2
    refine j_icmp_lt hJ0 23 gp1 gv2 dX11_isFact_12 (by decide) (fun z3 => ?_) (fun z3 => ?_)
    · have hF := hF.1 z3
      refine j_aload_n hJ0 dX11_isFact_23 rfl 0 rfl ?_
      refine j_ga hJ0 kC_0 fC_14_12 fl_X11_84 dX11_isFact_24 ?_
      refine j_iload_n hJ0 dX11_isFact_27 rfl 1 rfl ?_
      refine j_iload_n hJ0 dX11_isFact_28 rfl 2 rfl ?_
      refine j_aload_n hJ0 dX11_isFact_29 rfl 0 rfl ?_
      refine j_ga hJ0 kC_0 fC_14_11 fl_X11_77 dX11_isFact_30 ?_
      refine j_gr (e := 273) hJ0 kC_261 fC_10_18 fl_X11_495 dX11_isFact_33 rfl ?_
      refine j_iload_n hJ0 dX11_isFact_36 rfl 1 rfl ?_
      refine j_iald hJ0 gp1 kC_273 hF.1 hF.2.1 dX11_isFact_37 (fun v4 ev4 gv4 => ?_)
      have hF := hF.2.2 v4 ev4 gv4
      refine j_iconst hJ0 dX11_isFact_38 ?_
      refine j_icmp_ne hJ0 46 gv4 rk_1 dX11_isFact_39 (by decide) (fun z5 => ?_) (fun z5 => ?_)
      · have hF := hF.1 z5
        refine j_iload_n hJ0 dX11_isFact_46 rfl 3 rfl ?_
        exact j_sub hJ0 [] rfl (k_X11_isFact_b47 hst hin  hJ0 hT0  p3 p2 p1 _ gp3 gp2 gp1 hF)
      · have hF := hF.2 z5
        refine j_iload_n hJ0 dX11_isFact_42 rfl 2 rfl ?_
        refine j_goto hJ0 47 dX11_isFact_43 (by decide) ?_
        exact j_sub hJ0 [] rfl (k_X11_isFact_b47 hst hin  hJ0 hT0  p2 p2 p1 _ gp2 gp2 gp1 hF)
    · have hF := hF.2 z3
      exact j_sub hJ0 [] rfl (k_X11_isFact_b15 hst hin  hJ0 hT0   _  hF)
def W_X11_fault (ad : Nat → Nat) (Q : Int → MM → Prop) (av : List Value) (M : MM) : Prop := ∃ (p1 : Int), av = [.ref (ad 0), .int (Ii p1)] ∧ ri_ p1 ∧ w_X11_fault  Q p1 M
set_option maxHeartbeats 4000000 in
set_option maxRecDepth 100000 in
theorem c_X11_fault {l : Launch} {D : va_G} {cy : Nat → ClassId} {ad : Nat → Nat} (hin : jIn ad ksC.length) : jCN l D vwCl (tyC cy) cy ad ftC ksC (XtC ad) yX11_fault (.code yX11_fault cX11_fault 2 (some .int) :: Om) ({ frames := 0, cells := 0, slots := 0, locals := 0 } : Room) 1 (W_X11_fault ad) := by
  refine jCN_of (y := yX11_fault) (cc := cX11_fault) (nL := 2) (rk := 1) (rm := ({ frames := 0, cells := 0, slots := 0, locals := 0 } : Room)) (own := RX11) (tyC_ok cy) hin (XtC_ok ad) Om_good (by decide) rfl ?_
  intro Q av M hF
  obtain ⟨p1, rfl, gp1, hF⟩ := hF
  refine ⟨Nat.le_of_ble_eq_true rfl, fun J hJ => ?_⟩
  show J 0 [(0, .ref (ad 0)), (1, .int (Ii p1))] [] M
  unfold w_X11_fault at hF
  refine j_iload_n hJ dX11_fault_0 rfl 1 rfl ?_
  refine j_if_ne hJ 9 gp1 dX11_fault_1 (by decide) (fun z1 => ?_) (fun z1 => ?_)
  · have hF := hF.1 z1
    refine j_iload_n hJ dX11_fault_9 rfl 1 rfl ?_
    refine j_iconst hJ dX11_fault_10 ?_
    refine j_icmp_ne hJ 21 gp1 rk_1 dX11_fault_11 (by decide) (fun z2 => ?_) (fun z2 => ?_)
    · have hF := hF.1 z2
      refine j_iconst hJ dX11_fault_21 ?_
      exact j_iret hJ rfl rk_m1 dX11_fault_22 hF
    · have hF := hF.2 z2
      refine j_aload_n hJ dX11_fault_14 rfl 0 rfl ?_
      refine j_gi hJ kC_0 fC_14_17 rfl fl_X11_98 dX11_fault_15 (fun v3 ev3 gv3 => ?_)
      have hF := hF v3 ev3 gv3
      refine j_goto hJ 22 dX11_fault_18 (by decide) ?_
      exact j_iret hJ rfl gv3 dX11_fault_22 hF
  · have hF := hF.2 z1
    refine j_aload_n hJ dX11_fault_4 rfl 0 rfl ?_
    refine j_gi hJ kC_0 fC_14_16 rfl fl_X11_470 dX11_fault_5 (fun v4 ev4 gv4 => ?_)
    have hF := hF v4 ev4 gv4
    exact j_iret hJ rfl gv4 dX11_fault_8 hF
def W_X11_bytes (ad : Nat → Nat) (Q : Int → MM → Prop) (X : String → MM → Prop) (av : List Value) (M : MM) : Prop := ∃ (p1 : Int), av = [.ref (ad 0), .int (Ii p1)] ∧ ri_ p1 ∧ w_X11_bytes  Q X p1 M
set_option maxHeartbeats 4000000 in
set_option maxRecDepth 100000 in
theorem c_X11_bytes {l : Launch} {D : va_G} {cy : Nat → ClassId} {ad : Nat → Nat} (hst : l.stackTraces = false) (hin : jIn ad ksC.length) : jXN l D vwCl (tyC cy) cy ad ftC ksC (XtC ad) yX11_bytes (.code yX11_bytes cX11_bytes 3 (some .int) :: Om) ({ frames := 10, cells := 2, slots := 12, locals := 160 } : Room) 1 2 12 ["java/lang/IllegalStateException", "java/lang/IndexOutOfBoundsException"] (W_X11_bytes ad) := by
  refine jXN_of (y := yX11_bytes) (cc := cX11_bytes) (nL := 3) (rk := 1) (rm := ({ frames := 10, cells := 2, slots := 12, locals := 160 } : Room)) (own := RX11) 1 ["java/lang/IllegalStateException", "java/lang/IndexOutOfBoundsException"] hst (XtC_z ad) (tyC_ok cy) hin (XtC_ok ad) Om_good (by decide) rfl ⟨rfl, rfl⟩ ?_
  intro Q X av M hF
  obtain ⟨p1, rfl, gp1, hF⟩ := hF
  refine ⟨Nat.le_of_ble_eq_true rfl, fun J hJ hT hC => ?_⟩
  have hJ0 := hJ 0 (by decide)
  have hT0 := hT 0 (by decide)
  have hJ1 := hJ 1 (by decide)
  have hT1 := hT 1 (by decide)
  have hC0 := hC 0 (by decide)
  show J 0 0 [(0, .ref (ad 0)), (1, .int (Ii p1))] [] M
  unfold w_X11_bytes at hF
  refine j_iload_n hJ0 dX11_bytes_0 rfl 1 rfl ?_
  refine hC0 _ _ _ _ _ _ _ _ _ _ _ X [.int (Ii p1)] _ _ _ (c_X11_needPicture (l := l) (D := D) (cy := cy) (ad := ad) hst hin) rfl om_915 ⟨rfl, rfl, Nat.le_of_ble_eq_true rfl, Nat.le_of_ble_eq_true rfl⟩ mv_X11_354 hd_X11_needPicture rfl (Nat.le_of_ble_eq_true rfl) dX11_bytes_1 ⟨p1, rfl, gp1, hF⟩ (fun E M1 h8 h9 => ⟨by rw [List.mem_singleton.mp h8]; decide, h9⟩) (fun M1 qM1 => ?_)
  have hF := qM1
  refine j_aload_n hJ1 dX11_bytes_4 rfl 0 rfl ?_
  refine j_ga hJ1 kC_0 fC_14_13 fl_X11_91 dX11_bytes_5 ?_
  refine j_aload_n hJ1 dX11_bytes_8 rfl 0 rfl ?_
  refine j_ga hJ1 kC_0 fC_14_4 fl_X11_41 dX11_bytes_9 ?_
  refine j_iload_n hJ1 dX11_bytes_12 rfl 1 rfl ?_
  obtain ⟨h0_, h1_, c2, ec2, hc2, hF⟩ := hF
  refine j_aald4 hJ1 gp1 kC_45 rfl h0_ h1_ ec2 dX11_bytes_13 ?_
  refine j_callVi hJ1 (c_X0_encode (l := l) (D := D) (cy := cy) (ad := ad) hin) rfl om_1014 ⟨rfl, rfl, Nat.le_of_ble_eq_true rfl, Nat.le_of_ble_eq_true rfl⟩ [.ref (ad c2)] mv_X11_502 hd_X0_encodev kC_280 rfl rfl rfl (Nat.le_of_ble_eq_true rfl) dX11_bytes_14 ⟨c2, rfl, hc2, hF⟩ (fun r3 M4 gr3 qM4 => ?_)
  have hF := qM4 gr3
  refine j_istore_n (lv' := [(2, .int (Ii r3)), (0, .ref (ad 0)), (1, .int (Ii p1))]) hJ1 dX11_bytes_17 rfl (by decide) rfl ?_
  refine j_iload_n hJ1 dX11_bytes_18 rfl 0 rfl ?_
  refine j_sipush hJ1 dX11_bytes_19 (by decide) ?_
  refine j_icmp_le hJ1 33 gr3 rk_4000 dX11_bytes_22 (by decide) (fun z5 => ?_) (fun z5 => ?_)
  · have hF := hF.1 z5
    refine j_aload_n hJ1 dX11_bytes_33 rfl 1 rfl ?_
    refine j_ga hJ1 kC_0 fC_14_13 fl_X11_91 dX11_bytes_34 ?_
    refine j_gr (e := 281) hJ1 kC_280 fC_3_1 fl_X11_506 dX11_bytes_37 rfl ?_
    refine j_iconst hJ1 dX11_bytes_40 ?_
    refine j_aload_n hJ1 dX11_bytes_41 rfl 1 rfl ?_
    refine j_ga hJ1 kC_0 fC_14_0 fl_X11_12 dX11_bytes_42 ?_
    refine j_gr (e := 2) hJ1 kC_1 fC_12_0 fl_X11_113 dX11_bytes_45 rfl ?_
    refine j_iconst hJ1 dX11_bytes_48 ?_
    refine j_iload_n hJ1 dX11_bytes_49 rfl 0 rfl ?_
    refine j_copyi hJ1 rk_0 rk_0 gr3 kC_281 kC_2 (by decide) (by decide) hF.1 hF.2.1 hF.2.2.1 ⟨om_1018, om_122, om_123, om_124⟩ ⟨Nat.le_of_ble_eq_true rfl, Nat.le_of_ble_eq_true rfl⟩ dX11_bytes_50 (fun M6 eM6 => ?_)
    have hF := hF.2.2.2 M6 eM6
    refine j_aload_n hJ1 dX11_bytes_53 rfl 1 rfl ?_
    refine j_ga hJ1 kC_0 fC_14_0 fl_X11_12 dX11_bytes_54 ?_
    refine j_iload_n hJ1 dX11_bytes_57 rfl 0 rfl ?_
    refine j_pi hJ1 gr3 kC_1 fC_12_1 rfl fp_X11_110 dX11_bytes_58 (fun M7 eM7 => ?_)
    have hF := hF M7 eM7
    refine j_iload_n hJ1 dX11_bytes_61 rfl 0 rfl ?_
    exact j_iret hJ1 rfl gr3 dX11_bytes_62 hF
  · have hF := hF.2 z5
    exact hT1 _ _ _ _ _ _ _ (by decide) (tw_X11_137_139 (Nat.le_of_ble_eq_true rfl) (Nat.le_of_ble_eq_true rfl)) dX11_bytes_25 dX11_bytes_28 dX11_bytes_29 dX11_bytes_32 hF
def W_X11_exchange (ad : Nat → Nat) (Q : Int → MM → Prop) (av : List Value) (M : MM) : Prop := ∃ (p1 : Int), av = [.ref (ad 0), .int (Ii p1)] ∧ ri_ p1 ∧ w_X11_exchange  Q p1 M
set_option maxHeartbeats 4000000 in
set_option maxRecDepth 100000 in
theorem c_X11_exchange {l : Launch} {D : va_G} {cy : Nat → ClassId} {ad : Nat → Nat} (hin : jIn ad ksC.length) : jCN l D vwCl (tyC cy) cy ad ftC ksC (XtC ad) yX11_exchange (.code yX11_exchange cX11_exchange 3 (some .int) :: Om) ({ frames := 0, cells := 0, slots := 0, locals := 0 } : Room) 1 (W_X11_exchange ad) := by
  refine jCN_of (y := yX11_exchange) (cc := cX11_exchange) (nL := 3) (rk := 1) (rm := ({ frames := 0, cells := 0, slots := 0, locals := 0 } : Room)) (own := RX11) (tyC_ok cy) hin (XtC_ok ad) Om_good (by decide) rfl ?_
  intro Q av M hF
  obtain ⟨p1, rfl, gp1, hF⟩ := hF
  refine ⟨Nat.le_of_ble_eq_true rfl, fun J hJ => ?_⟩
  show J 0 [(0, .ref (ad 0)), (1, .int (Ii p1))] [] M
  unfold w_X11_exchange at hF
  refine j_aload_n hJ dX11_exchange_0 rfl 0 rfl ?_
  refine j_ga hJ kC_0 fC_14_4 fl_X11_41 dX11_exchange_1 ?_
  refine j_iload_n hJ dX11_exchange_4 rfl 1 rfl ?_
  obtain ⟨h0_, h1_, c1, ec1, hc1, hF⟩ := hF
  refine j_aald4 hJ gp1 kC_45 rfl h0_ h1_ ec1 dX11_exchange_5 ?_
  refine j_astore_n (lv' := [(2, .ref (ad c1)), (0, .ref (ad 0)), (1, .int (Ii p1))]) hJ dX11_exchange_6 rfl (by decide) rfl ?_
  refine j_aload_n hJ dX11_exchange_7 rfl 1 rfl ?_
  refine j_ga hJ kC_0 fC_14_4 fl_X11_41 dX11_exchange_8 ?_
  refine j_iload_n hJ dX11_exchange_11 rfl 2 rfl ?_
  refine j_aload_n hJ dX11_exchange_12 rfl 1 rfl ?_
  obtain ⟨c2, ec2, hc2, hF⟩ := hF
  refine j_gq hJ kC_0 fC_14_5 rfl fl_X11_46 dX11_exchange_13 ec2 ?_
  refine j_aast4 hJ gp1 (ri_P hc2) kC_45 (kP_0 hc2) rfl rfl hF.1 hF.2.1 dX11_exchange_16 (fun M3 eM3 => ?_)
  have hF := hF.2.2 M3 eM3
  refine j_aload_n hJ dX11_exchange_17 rfl 1 rfl ?_
  refine j_aload_n hJ dX11_exchange_18 rfl 0 rfl ?_
  refine j_pq hJ (ri_P hc1) kC_0 fC_14_5 rfl fp_X11_46 dX11_exchange_19 (fun M4 eM4 => ?_)
  have hF := hF M4 eM4
  refine j_aload_n hJ dX11_exchange_22 rfl 1 rfl ?_
  refine j_ga hJ kC_0 fC_14_4 fl_X11_41 dX11_exchange_23 ?_
  refine j_iload_n hJ dX11_exchange_26 rfl 2 rfl ?_
  obtain ⟨h0_, h1_, c5, ec5, hc5, hF⟩ := hF
  refine j_aald4 hJ gp1 kC_45 rfl h0_ h1_ ec5 dX11_exchange_27 ?_
  refine j_gi hJ (kP_0 hc5) fC_8_0 rfl fl_X11_357 dX11_exchange_28 (fun v6 ev6 gv6 => ?_)
  have hF := hF v6 ev6 gv6
  exact j_iret hJ rfl gv6 dX11_exchange_31 hF
def W_X11_load (ad : Nat → Nat) (Q : Int → MM → Prop) (X : String → MM → Prop) (av : List Value) (M : MM) : Prop := ∃ (p1 : Int), av = [.ref (ad 0), .int (Ii p1)] ∧ ri_ p1 ∧ w_X11_load  Q X p1 M
set_option maxHeartbeats 4000000 in
set_option maxRecDepth 100000 in
theorem k_X11_load_b63 {l : Launch} {D : va_G} {cy : Nat → ClassId} {ad : Nat → Nat} {Q : Int → MM → Prop} {X : String → MM → Prop} {J : Nat → List (Nat × Value) → List Value → MM → Prop} (hst : l.stackTraces = false) (hin : jIn ad ksC.length)   (hJ : jOk l D vwCl (tyC cy) cy ad ftC ksC (XtC ad) Om RX11 cX11_load 4 1 ({ frames := 10, cells := 2, slots := 12, locals := 160 } : Room) Q J) (hT : jTh RX11 cX11_load Om ({ frames := 10, cells := 2, slots := 12, locals := 160 } : Room) ["java/lang/IllegalArgumentException", "java/lang/IndexOutOfBoundsException"] X J)  : ∀ (x1 x3 : Int) (M : MM), ri_ x1 → ri_ x3 → w_X11_load_b63  Q X  x1 x3 M → J 63 [(0, .ref (ad 0)), (1, .int (Ii x1)), (3, .int (Ii x3))] [] M := by
  have H9 : ∀ (n : Nat) (x1 x3 : Int) (M : MM), ri_ x1 → ri_ x3 → jit (fun _ _ _ => False) (wb_X11_load_b63  Q X ) n x1 x3 M → J 63 [(0, .ref (ad 0)), (1, .int (Ii x1)), (3, .int (Ii x3))] [] M := by
    intro n
    induction n with
    | zero => intro x1 x3 M gx1 gx3 hF; exact False.elim hF
    | succ n ih =>
    intro x1 x3 M gx1 gx3 hF
    have hF : wb_X11_load_b63  Q X  (jit (fun _ _ _ => False) (wb_X11_load_b63  Q X ) n) x1 x3 M := hF
    unfold wb_X11_load_b63 at hF
    refine j_iload_n hJ dX11_load_63 rfl 2 rfl ?_
    refine j_aload_n hJ dX11_load_64 rfl 0 rfl ?_
    obtain ⟨c1, ec1, hc1, hF⟩ := hF
    refine j_gq hJ kC_0 fC_14_5 rfl fl_X11_46 dX11_load_65 ec1 ?_
    refine j_gi hJ (kP_0 hc1) fC_8_0 rfl fl_X11_357 dX11_load_68 (fun v2 ev2 gv2 => ?_)
    have hF := hF v2 ev2 gv2
    refine j_icmp_ge hJ 96 gx3 gv2 dX11_load_71 (by decide) (fun z3 => ?_) (fun z3 => ?_)
    · have hF := hF.1 z3
      refine j_aload_n hJ dX11_load_96 rfl 0 rfl ?_
      refine j_iload_n hJ dX11_load_97 rfl 1 rfl ?_
      refine j_callVi hJ (c_X11_exchange (l := l) (D := D) (cy := cy) (ad := ad) hin) rfl om_1020 ⟨rfl, rfl, Nat.le_of_ble_eq_true rfl, Nat.le_of_ble_eq_true rfl⟩ [.int (Ii x1)] mv_X11_524 hd_X11_exchangev kC_0 rfl rfl rfl (Nat.le_of_ble_eq_true rfl) dX11_load_98 ⟨x1, rfl, gx1, hF⟩ (fun r4 M5 gr4 qM5 => ?_)
      have hF := qM5 gr4
      exact j_iret hJ rfl gr4 dX11_load_101 hF
    · have hF := hF.2 z3
      refine j_aload_n hJ dX11_load_74 rfl 0 rfl ?_
      refine j_ga hJ kC_0 fC_14_1 fl_X11_19 dX11_load_75 ?_
      refine j_aload_n hJ dX11_load_78 rfl 0 rfl ?_
      obtain ⟨c6, ec6, hc6, hF⟩ := hF
      refine j_gq hJ kC_0 fC_14_5 rfl fl_X11_46 dX11_load_79 ec6 ?_
      refine j_gr (e := (c6 + 2)) hJ (kP_0 hc6) fC_8_2 fl_X11_366 dX11_load_82 rfl ?_
      refine j_iload_n hJ dX11_load_85 rfl 2 rfl ?_
      refine j_iald hJ gx3 (kP_2 hc6) hF.1 hF.2.1 dX11_load_86 (fun v7 ev7 gv7 => ?_)
      have hF := hF.2.2 v7 ev7 gv7
      refine j_callVv hJ (c_X10_use (l := l) (D := D) (cy := cy) (ad := ad) hin) rfl om_189 ⟨rfl, rfl, Nat.le_of_ble_eq_true rfl, Nat.le_of_ble_eq_true rfl⟩ [.int (Ii v7)] mv_X11_521 hd_X10_usev kC_8 rfl rfl rfl (Nat.le_of_ble_eq_true rfl) dX11_load_87 ⟨v7, rfl, gv7, hF⟩ (fun M9 qM9 => ?_)
      have hF := qM9
      refine j_iinc (lv' := [(3, .int (Ii (x3 + 1))), (0, .ref (ad 0)), (1, .int (Ii x1))]) (k := 2) hJ dX11_load_90 rfl (by decide) rfl ?_
      have g10 := hF.1; have hF := hF.2
      refine j_goto hJ 63 dX11_load_93 (by decide) ?_
      exact j_sub hJ [1, 2, 0] rfl (ih x1 (x3 + 1) _ gx1 g10 hF)
  intro x1 x3 M gx1 gx3 hF
  obtain ⟨n, hF⟩ := hF
  exact H9 n x1 x3 M gx1 gx3 hF
set_option maxHeartbeats 4000000 in
set_option maxRecDepth 100000 in
theorem c_X11_load {l : Launch} {D : va_G} {cy : Nat → ClassId} {ad : Nat → Nat} (hst : l.stackTraces = false) (hin : jIn ad ksC.length) : jXN l D vwCl (tyC cy) cy ad ftC ksC (XtC ad) yX11_load (.code yX11_load cX11_load 4 (some .int) :: Om) ({ frames := 10, cells := 2, slots := 12, locals := 160 } : Room) 1 2 12 ["java/lang/IllegalArgumentException", "java/lang/IndexOutOfBoundsException"] (W_X11_load ad) := by
  refine jXN_of (y := yX11_load) (cc := cX11_load) (nL := 4) (rk := 1) (rm := ({ frames := 10, cells := 2, slots := 12, locals := 160 } : Room)) (own := RX11) 1 ["java/lang/IllegalArgumentException", "java/lang/IndexOutOfBoundsException"] hst (XtC_z ad) (tyC_ok cy) hin (XtC_ok ad) Om_good (by decide) rfl ⟨rfl, rfl⟩ ?_
  intro Q X av M hF
  obtain ⟨p1, rfl, gp1, hF⟩ := hF
  refine ⟨Nat.le_of_ble_eq_true rfl, fun J hJ hT hC => ?_⟩
  have hJ0 := hJ 0 (by decide)
  have hT0 := hT 0 (by decide)
  have hJ1 := hJ 1 (by decide)
  have hT1 := hT 1 (by decide)
  have hC0 := hC 0 (by decide)
  show J 0 0 [(0, .ref (ad 0)), (1, .int (Ii p1))] [] M
  unfold w_X11_load at hF
  refine j_iload_n hJ0 dX11_load_0 rfl 1 rfl ?_
  refine hC0 _ _ _ _ _ _ _ _ _ _ _ X [.int (Ii p1)] _ _ _ (c_X11_needPicture (l := l) (D := D) (cy := cy) (ad := ad) hst hin) rfl om_915 ⟨rfl, rfl, Nat.le_of_ble_eq_true rfl, Nat.le_of_ble_eq_true rfl⟩ mv_X11_354 hd_X11_needPicture rfl (Nat.le_of_ble_eq_true rfl) dX11_load_1 ⟨p1, rfl, gp1, hF⟩ (fun E M1 h8 h9 => ⟨by rw [List.mem_singleton.mp h8]; decide, h9⟩) (fun M1 qM1 => ?_)
  have hF := qM1
  refine j_aload_n hJ1 dX11_load_4 rfl 0 rfl ?_
  refine j_ga hJ1 kC_0 fC_14_13 fl_X11_91 dX11_load_5 ?_
  refine j_aload_n hJ1 dX11_load_8 rfl 0 rfl ?_
  refine j_ga hJ1 kC_0 fC_14_0 fl_X11_12 dX11_load_9 ?_
  refine j_gr (e := 2) hJ1 kC_1 fC_12_0 fl_X11_113 dX11_load_12 rfl ?_
  refine j_iconst hJ1 dX11_load_15 ?_
  refine j_aload_n hJ1 dX11_load_16 rfl 0 rfl ?_
  refine j_ga hJ1 kC_0 fC_14_0 fl_X11_12 dX11_load_17 ?_
  refine j_gi hJ1 kC_1 fC_12_1 rfl fl_X11_110 dX11_load_20 (fun v2 ev2 gv2 => ?_)
  have hF := hF v2 ev2 gv2
  refine j_aload_n hJ1 dX11_load_23 rfl 0 rfl ?_
  obtain ⟨c3, ec3, hc3, hF⟩ := hF
  refine j_gq hJ1 kC_0 fC_14_5 rfl fl_X11_46 dX11_load_24 ec3 ?_
  refine j_callVz hJ1 (c_X0_decode (l := l) (D := D) (cy := cy) (ad := ad) hin) rfl om_132 ⟨rfl, rfl, Nat.le_of_ble_eq_true rfl, Nat.le_of_ble_eq_true rfl⟩ [.ref (ad 2), .int (Ii 0), .int (Ii v2), .ref (ad c3)] mv_X11_515 hd_X0_decodev kC_280 rfl rfl rfl (Nat.le_of_ble_eq_true rfl) dX11_load_27 ⟨2, 4000, 0, v2, c3, rfl, kC_2, (by decide), rk_0, gv2, hc3, hF⟩ (fun r4 M5 gr4 qM5 => ?_)
  have hF := qM5 gr4
  refine j_istore_n (lv' := [(2, .int (Ii r4)), (0, .ref (ad 0)), (1, .int (Ii p1))]) hJ1 dX11_load_30 rfl (by decide) rfl ?_
  refine j_aload_n hJ1 dX11_load_31 rfl 1 rfl ?_
  refine j_aload_n hJ1 dX11_load_32 rfl 1 rfl ?_
  refine j_ga hJ1 kC_0 fC_14_13 fl_X11_91 dX11_load_33 ?_
  refine j_gi hJ1 kC_280 fC_3_13 rfl fl_X11_519 dX11_load_36 (fun v6 ev6 gv6 => ?_)
  have hF := hF v6 ev6 gv6
  refine j_aload_n hJ1 dX11_load_39 rfl 1 rfl ?_
  refine j_ga hJ1 kC_0 fC_14_13 fl_X11_91 dX11_load_40 ?_
  refine j_gi hJ1 kC_280 fC_3_14 rfl fl_X11_520 dX11_load_43 (fun v7 ev7 gv7 => ?_)
  have hF := hF v7 ev7 gv7
  refine j_callVv hJ1 (c_X11_tellFault (l := l) (D := D) (cy := cy) (ad := ad) hin) rfl om_908 ⟨rfl, rfl, Nat.le_of_ble_eq_true rfl, Nat.le_of_ble_eq_true rfl⟩ [.int (Ii v6), .int (Ii v7)] mv_X11_340 hd_X11_tellFaultv kC_0 rfl rfl rfl (Nat.le_of_ble_eq_true rfl) dX11_load_46 ⟨v6, v7, rfl, gv6, gv7, hF⟩ (fun M9 qM9 => ?_)
  have hF := qM9
  refine j_iload_n hJ1 dX11_load_49 rfl 0 rfl ?_
  refine j_if_ne hJ1 61 (jz_ri gr4) dX11_load_50 (by decide) (fun z10 => ?_) (fun z10 => ?_)
  · have hF := hF.1 z10
    refine j_iconst hJ1 dX11_load_61 ?_
    refine j_istore_n (lv' := [(3, .int (Ii 0)), (2, .int (Ii r4)), (0, .ref (ad 0)), (1, .int (Ii p1))]) hJ1 dX11_load_62 rfl (by decide) rfl ?_
    exact j_sub hJ1 [2, 3, 0] rfl (k_X11_load_b63 hst hin  hJ1 hT1  p1 0 _ gp1 rk_0 hF)
  · have hF := hF.2 z10
    exact hT1 _ _ _ _ _ _ _ (by decide) (tw_X11_127_129 (Nat.le_of_ble_eq_true rfl) (Nat.le_of_ble_eq_true rfl)) dX11_load_53 dX11_load_56 dX11_load_57 dX11_load_60 hF
def W_X11_keep (ad : Nat → Nat) (Q : Int → MM → Prop) (X : String → MM → Prop) (av : List Value) (M : MM) : Prop := ∃ (p1 : Int), av = [.ref (ad 0), .int (Ii p1)] ∧ ri_ p1 ∧ w_X11_keep  Q X p1 M
set_option maxHeartbeats 4000000 in
set_option maxRecDepth 100000 in
theorem k_X11_keep_b36 {l : Launch} {D : va_G} {cy : Nat → ClassId} {ad : Nat → Nat} {Q : Int → MM → Prop} {X : String → MM → Prop} {J : Nat → List (Nat × Value) → List Value → MM → Prop} (hst : l.stackTraces = false) (hin : jIn ad ksC.length)   (hJ : jOk l D vwCl (tyC cy) cy ad ftC ksC (XtC ad) Om RX11 cX11_keep 3 1 ({ frames := 10, cells := 2, slots := 12, locals := 160 } : Room) Q J) (hT : jTh RX11 cX11_keep Om ({ frames := 10, cells := 2, slots := 12, locals := 160 } : Room) ["java/lang/IllegalStateException", "java/lang/IndexOutOfBoundsException"] X J)  : ∀ (M : MM), w_X11_keep_b36  Q X   M → J 36 [] [] M := by
  intro  M  hF
  unfold w_X11_keep_b36 at hF
  exact hT _ _ _ _ _ _ _ (by decide) (tw_X11_137_139 (Nat.le_of_ble_eq_true rfl) (Nat.le_of_ble_eq_true rfl)) dX11_keep_36 dX11_keep_39 dX11_keep_40 dX11_keep_43 hF
set_option maxHeartbeats 4000000 in
set_option maxRecDepth 100000 in
theorem c_X11_keep {l : Launch} {D : va_G} {cy : Nat → ClassId} {ad : Nat → Nat} (hst : l.stackTraces = false) (hin : jIn ad ksC.length) : jXN l D vwCl (tyC cy) cy ad ftC ksC (XtC ad) yX11_keep (.code yX11_keep cX11_keep 3 (some .int) :: Om) ({ frames := 10, cells := 2, slots := 12, locals := 160 } : Room) 1 2 12 ["java/lang/IllegalStateException", "java/lang/IndexOutOfBoundsException"] (W_X11_keep ad) := by
  refine jXN_of (y := yX11_keep) (cc := cX11_keep) (nL := 3) (rk := 1) (rm := ({ frames := 10, cells := 2, slots := 12, locals := 160 } : Room)) (own := RX11) 1 ["java/lang/IllegalStateException", "java/lang/IndexOutOfBoundsException"] hst (XtC_z ad) (tyC_ok cy) hin (XtC_ok ad) Om_good (by decide) rfl ⟨rfl, rfl⟩ ?_
  intro Q X av M hF
  obtain ⟨p1, rfl, gp1, hF⟩ := hF
  refine ⟨Nat.le_of_ble_eq_true rfl, fun J hJ hT hC => ?_⟩
  have hJ0 := hJ 0 (by decide)
  have hT0 := hT 0 (by decide)
  have hJ1 := hJ 1 (by decide)
  have hT1 := hT 1 (by decide)
  have hC0 := hC 0 (by decide)
  show J 0 0 [(0, .ref (ad 0)), (1, .int (Ii p1))] [] M
  unfold w_X11_keep at hF
  refine j_iload_n hJ0 dX11_keep_0 rfl 1 rfl ?_
  refine hC0 _ _ _ _ _ _ _ _ _ _ _ X [.int (Ii p1)] _ _ _ (c_X11_needPicture (l := l) (D := D) (cy := cy) (ad := ad) hst hin) rfl om_915 ⟨rfl, rfl, Nat.le_of_ble_eq_true rfl, Nat.le_of_ble_eq_true rfl⟩ mv_X11_354 hd_X11_needPicture rfl (Nat.le_of_ble_eq_true rfl) dX11_keep_1 ⟨p1, rfl, gp1, hF⟩ (fun E M1 h8 h9 => ⟨by rw [List.mem_singleton.mp h8]; decide, h9⟩) (fun M1 qM1 => ?_)
  have hF := qM1
  refine j_aload_n hJ1 dX11_keep_4 rfl 0 rfl ?_
  refine j_ga hJ1 kC_0 fC_14_13 fl_X11_91 dX11_keep_5 ?_
  refine j_aload_n hJ1 dX11_keep_8 rfl 0 rfl ?_
  refine j_ga hJ1 kC_0 fC_14_4 fl_X11_41 dX11_keep_9 ?_
  refine j_iload_n hJ1 dX11_keep_12 rfl 1 rfl ?_
  obtain ⟨h0_, h1_, c2, ec2, hc2, hF⟩ := hF
  refine j_aald4 hJ1 gp1 kC_45 rfl h0_ h1_ ec2 dX11_keep_13 ?_
  refine j_callVi hJ1 (c_X0_encode (l := l) (D := D) (cy := cy) (ad := ad) hin) rfl om_1014 ⟨rfl, rfl, Nat.le_of_ble_eq_true rfl, Nat.le_of_ble_eq_true rfl⟩ [.ref (ad c2)] mv_X11_502 hd_X0_encodev kC_280 rfl rfl rfl (Nat.le_of_ble_eq_true rfl) dX11_keep_14 ⟨c2, rfl, hc2, hF⟩ (fun r3 M4 gr3 qM4 => ?_)
  have hF := qM4 gr3
  refine j_istore_n (lv' := [(2, .int (Ii r3)), (0, .ref (ad 0)), (1, .int (Ii p1))]) hJ1 dX11_keep_17 rfl (by decide) rfl ?_
  refine j_iload_n hJ1 dX11_keep_18 rfl 0 rfl ?_
  refine j_sipush hJ1 dX11_keep_19 (by decide) ?_
  refine j_icmp_gt hJ1 36 gr3 rk_4000 dX11_keep_22 (by decide) (fun z5 => ?_) (fun z5 => ?_)
  · have hF := hF.1 z5
    exact j_sub hJ1 [] rfl (k_X11_keep_b36 hst hin  hJ1 hT1   _  hF)
  · have hF := hF.2 z5
    refine j_aload_n hJ1 dX11_keep_25 rfl 1 rfl ?_
    refine j_ga hJ1 kC_0 fC_14_13 fl_X11_91 dX11_keep_26 ?_
    refine j_iload_n hJ1 dX11_keep_29 rfl 0 rfl ?_
    refine j_callVz hJ1 (c_X0_append (l := l) (D := D) (cy := cy) (ad := ad) hin) rfl om_1025 ⟨rfl, rfl, Nat.le_of_ble_eq_true rfl, Nat.le_of_ble_eq_true rfl⟩ [.int (Ii r3)] mv_X11_527 hd_X0_appendv kC_280 rfl rfl rfl (Nat.le_of_ble_eq_true rfl) dX11_keep_30 ⟨r3, rfl, gr3, hF⟩ (fun r6 M7 gr6 qM7 => ?_)
    have hF := qM7 gr6
    refine j_if_ne hJ1 44 (jz_ri gr6) dX11_keep_33 (by decide) (fun z8 => ?_) (fun z8 => ?_)
    · have hF := hF.1 z8
      refine j_aload_n hJ1 dX11_keep_44 rfl 1 rfl ?_
      refine j_ga hJ1 kC_0 fC_14_13 fl_X11_91 dX11_keep_45 ?_
      refine j_gi hJ1 kC_280 fC_3_5 rfl fl_X11_530 dX11_keep_48 (fun v9 ev9 gv9 => ?_)
      have hF := hF v9 ev9 gv9
      exact j_iret hJ1 rfl gv9 dX11_keep_51 hF
    · have hF := hF.2 z8
      exact j_sub hJ1 [] rfl (k_X11_keep_b36 hst hin  hJ1 hT1   _  hF)
def W_X11_reopen (ad : Nat → Nat) (Q : Int → MM → Prop) (av : List Value) (M : MM) : Prop := ∃ (p1 : Int), av = [.ref (ad 0), .int (Ii p1)] ∧ ri_ p1 ∧ w_X11_reopen  Q p1 M
set_option maxHeartbeats 4000000 in
set_option maxRecDepth 100000 in
theorem c_X11_reopen {l : Launch} {D : va_G} {cy : Nat → ClassId} {ad : Nat → Nat} (hin : jIn ad ksC.length) : jCN l D vwCl (tyC cy) cy ad ftC ksC (XtC ad) yX11_reopen (.code yX11_reopen cX11_reopen 2 (some .int) :: Om) ({ frames := 7, cells := 0, slots := 0, locals := 168 } : Room) 1 (W_X11_reopen ad) := by
  refine jCN_of (y := yX11_reopen) (cc := cX11_reopen) (nL := 2) (rk := 1) (rm := ({ frames := 7, cells := 0, slots := 0, locals := 168 } : Room)) (own := RX11) (tyC_ok cy) hin (XtC_ok ad) Om_good (by decide) rfl ?_
  intro Q av M hF
  obtain ⟨p1, rfl, gp1, hF⟩ := hF
  refine ⟨Nat.le_of_ble_eq_true rfl, fun J hJ => ?_⟩
  show J 0 [(0, .ref (ad 0)), (1, .int (Ii p1))] [] M
  unfold w_X11_reopen at hF
  refine j_aload_n hJ dX11_reopen_0 rfl 0 rfl ?_
  refine j_ga hJ kC_0 fC_14_13 fl_X11_91 dX11_reopen_1 ?_
  refine j_iload_n hJ dX11_reopen_4 rfl 1 rfl ?_
  refine j_aload_n hJ dX11_reopen_5 rfl 0 rfl ?_
  obtain ⟨c1, ec1, hc1, hF⟩ := hF
  refine j_gq hJ kC_0 fC_14_5 rfl fl_X11_46 dX11_reopen_6 ec1 ?_
  refine j_callVi hJ (c_X0_reopenAt (l := l) (D := D) (cy := cy) (ad := ad) hin) rfl om_1029 ⟨rfl, rfl, Nat.le_of_ble_eq_true rfl, Nat.le_of_ble_eq_true rfl⟩ [.int (Ii p1), .ref (ad c1)] mv_X11_533 hd_X0_reopenAtv kC_280 rfl rfl rfl (Nat.le_of_ble_eq_true rfl) dX11_reopen_9 ⟨p1, c1, rfl, gp1, hc1, hF⟩ (fun r2 M3 gr2 qM3 => ?_)
  have hF := qM3 gr2
  exact j_iret hJ rfl gr2 dX11_reopen_12 hF
def W_X11_recall (ad : Nat → Nat) (Q : Int → MM → Prop) (X : String → MM → Prop) (av : List Value) (M : MM) : Prop := ∃ (p1 : Int) (p2 : Int), av = [.ref (ad 0), .int (Ii p1), .int (Ii p2)] ∧ ri_ p1 ∧ ri_ p2 ∧ w_X11_recall  Q X p1 p2 M
set_option maxHeartbeats 4000000 in
set_option maxRecDepth 100000 in
theorem k_X11_recall_b34 {l : Launch} {D : va_G} {cy : Nat → ClassId} {ad : Nat → Nat} {Q : Int → MM → Prop} {X : String → MM → Prop} {J : Nat → List (Nat × Value) → List Value → MM → Prop} (hst : l.stackTraces = false) (hin : jIn ad ksC.length)   (hJ : jOk l D vwCl (tyC cy) cy ad ftC ksC (XtC ad) Om RX11 cX11_recall 3 1 ({ frames := 10, cells := 2, slots := 12, locals := 167 } : Room) Q J) (hT : jTh RX11 cX11_recall Om ({ frames := 10, cells := 2, slots := 12, locals := 167 } : Room) ["java/lang/IndexOutOfBoundsException", "java/util/NoSuchElementException"] X J)  : ∀ (M : MM), w_X11_recall_b34  Q X   M → J 34 [] [] M := by
  intro  M  hF
  unfold w_X11_recall_b34 at hF
  exact hT _ _ _ _ _ _ _ (by decide) (tw_X11_222_224 (Nat.le_of_ble_eq_true rfl) (Nat.le_of_ble_eq_true rfl)) dX11_recall_34 dX11_recall_37 dX11_recall_38 dX11_recall_41 hF
set_option maxHeartbeats 4000000 in
set_option maxRecDepth 100000 in
theorem c_X11_recall {l : Launch} {D : va_G} {cy : Nat → ClassId} {ad : Nat → Nat} (hst : l.stackTraces = false) (hin : jIn ad ksC.length) : jXN l D vwCl (tyC cy) cy ad ftC ksC (XtC ad) yX11_recall (.code yX11_recall cX11_recall 3 (some .int) :: Om) ({ frames := 10, cells := 2, slots := 12, locals := 167 } : Room) 1 2 12 ["java/lang/IndexOutOfBoundsException", "java/util/NoSuchElementException"] (W_X11_recall ad) := by
  refine jXN_of (y := yX11_recall) (cc := cX11_recall) (nL := 3) (rk := 1) (rm := ({ frames := 10, cells := 2, slots := 12, locals := 167 } : Room)) (own := RX11) 1 ["java/lang/IndexOutOfBoundsException", "java/util/NoSuchElementException"] hst (XtC_z ad) (tyC_ok cy) hin (XtC_ok ad) Om_good (by decide) rfl ⟨rfl, rfl⟩ ?_
  intro Q X av M hF
  obtain ⟨p1, p2, rfl, gp1, gp2, hF⟩ := hF
  refine ⟨Nat.le_of_ble_eq_true rfl, fun J hJ hT hC => ?_⟩
  have hJ0 := hJ 0 (by decide)
  have hT0 := hT 0 (by decide)
  have hJ1 := hJ 1 (by decide)
  have hT1 := hT 1 (by decide)
  have hC0 := hC 0 (by decide)
  show J 0 0 [(0, .ref (ad 0)), (1, .int (Ii p1)), (2, .int (Ii p2))] [] M
  unfold w_X11_recall at hF
  refine j_iload_n hJ0 dX11_recall_0 rfl 1 rfl ?_
  refine hC0 _ _ _ _ _ _ _ _ _ _ _ X [.int (Ii p1)] _ _ _ (c_X11_needPicture (l := l) (D := D) (cy := cy) (ad := ad) hst hin) rfl om_915 ⟨rfl, rfl, Nat.le_of_ble_eq_true rfl, Nat.le_of_ble_eq_true rfl⟩ mv_X11_354 hd_X11_needPicture rfl (Nat.le_of_ble_eq_true rfl) dX11_recall_1 ⟨p1, rfl, gp1, hF⟩ (fun E M1 h8 h9 => ⟨by rw [List.mem_singleton.mp h8]; decide, h9⟩) (fun M1 qM1 => ?_)
  have hF := qM1
  refine j_iload_n hJ1 dX11_recall_4 rfl 2 rfl ?_
  refine j_if_lt hJ1 34 gp2 dX11_recall_5 (by decide) (fun z2 => ?_) (fun z2 => ?_)
  · have hF := hF.1 z2
    exact j_sub hJ1 [] rfl (k_X11_recall_b34 hst hin  hJ1 hT1   _  hF)
  · have hF := hF.2 z2
    refine j_iload_n hJ1 dX11_recall_8 rfl 2 rfl ?_
    refine j_aload_n hJ1 dX11_recall_9 rfl 0 rfl ?_
    refine j_ga hJ1 kC_0 fC_14_13 fl_X11_91 dX11_recall_10 ?_
    refine j_gi hJ1 kC_280 fC_3_5 rfl fl_X11_530 dX11_recall_13 (fun v3 ev3 gv3 => ?_)
    have hF := hF v3 ev3 gv3
    refine j_icmp_ge hJ1 34 gp2 gv3 dX11_recall_16 (by decide) (fun z4 => ?_) (fun z4 => ?_)
    · have hF := hF.1 z4
      exact j_sub hJ1 [] rfl (k_X11_recall_b34 hst hin  hJ1 hT1   _  hF)
    · have hF := hF.2 z4
      refine j_aload_n hJ1 dX11_recall_19 rfl 0 rfl ?_
      refine j_ga hJ1 kC_0 fC_14_13 fl_X11_91 dX11_recall_20 ?_
      refine j_iload_n hJ1 dX11_recall_23 rfl 2 rfl ?_
      refine j_aload_n hJ1 dX11_recall_24 rfl 0 rfl ?_
      obtain ⟨c5, ec5, hc5, hF⟩ := hF
      refine j_gq hJ1 kC_0 fC_14_5 rfl fl_X11_46 dX11_recall_25 ec5 ?_
      refine j_callVz hJ1 (c_X0_readRecord (l := l) (D := D) (cy := cy) (ad := ad) hin) rfl om_1033 ⟨rfl, rfl, Nat.le_of_ble_eq_true rfl, Nat.le_of_ble_eq_true rfl⟩ [.int (Ii p2), .ref (ad c5)] mv_X11_537 hd_X0_readRecordv kC_280 rfl rfl rfl (Nat.le_of_ble_eq_true rfl) dX11_recall_28 ⟨p2, c5, rfl, gp2, hc5, hF⟩ (fun r6 M7 gr6 qM7 => ?_)
      have hF := qM7 gr6
      refine j_if_ne hJ1 42 (jz_ri gr6) dX11_recall_31 (by decide) (fun z8 => ?_) (fun z8 => ?_)
      · have hF := hF.1 z8
        refine j_aload_n hJ1 dX11_recall_42 rfl 0 rfl ?_
        refine j_iload_n hJ1 dX11_recall_43 rfl 1 rfl ?_
        refine j_callVi hJ1 (c_X11_exchange (l := l) (D := D) (cy := cy) (ad := ad) hin) rfl om_1020 ⟨rfl, rfl, Nat.le_of_ble_eq_true rfl, Nat.le_of_ble_eq_true rfl⟩ [.int (Ii p1)] mv_X11_524 hd_X11_exchangev kC_0 rfl rfl rfl (Nat.le_of_ble_eq_true rfl) dX11_recall_44 ⟨p1, rfl, gp1, hF⟩ (fun r9 M10 gr9 qM10 => ?_)
        have hF := qM10 gr9
        exact j_iret hJ1 rfl gr9 dX11_recall_47 hF
      · have hF := hF.2 z8
        exact j_sub hJ1 [] rfl (k_X11_recall_b34 hst hin  hJ1 hT1   _  hF)
def W_X11_about (ad : Nat → Nat) (Q : Int → MM → Prop) (av : List Value) (M : MM) : Prop := ∃ (p1 : Int), av = [.ref (ad 0), .int (Ii p1)] ∧ ri_ p1 ∧ w_X11_about  Q p1 M
set_option maxHeartbeats 4000000 in
set_option maxRecDepth 100000 in
theorem c_X11_about {l : Launch} {D : va_G} {cy : Nat → ClassId} {ad : Nat → Nat} (hin : jIn ad ksC.length) : jCN l D vwCl (tyC cy) cy ad ftC ksC (XtC ad) yX11_about (.code yX11_about cX11_about 2 (some .int) :: Om) ({ frames := 0, cells := 0, slots := 0, locals := 0 } : Room) 1 (W_X11_about ad) := by
  refine jCN_of (y := yX11_about) (cc := cX11_about) (nL := 2) (rk := 1) (rm := ({ frames := 0, cells := 0, slots := 0, locals := 0 } : Room)) (own := RX11) (tyC_ok cy) hin (XtC_ok ad) Om_good (by decide) rfl ?_
  intro Q av M hF
  obtain ⟨p1, rfl, gp1, hF⟩ := hF
  refine ⟨Nat.le_of_ble_eq_true rfl, fun J hJ => ?_⟩
  show J 0 [(0, .ref (ad 0)), (1, .int (Ii p1))] [] M
  unfold w_X11_about at hF
  refine j_iload_n hJ dX11_about_0 rfl 1 rfl ?_
  by_cases z1 : p1 = 0
  · refine j_tabIn hJ 67 68 gp1 dX11_about_1 (by omega) (by omega) (by rw [z1]; decide) (by decide) ?_
    have hF := hF.1 z1
    refine j_aload_n hJ dX11_about_68 rfl 0 rfl ?_
    refine j_ga hJ kC_0 fC_14_0 fl_X11_12 dX11_about_69 ?_
    refine j_gi hJ kC_1 fC_12_1 rfl fl_X11_110 dX11_about_72 (fun v2 ev2 gv2 => ?_)
    have hF := hF v2 ev2 gv2
    exact j_iret hJ rfl gv2 dX11_about_75 hF
  by_cases z3 : p1 = 1
  · refine j_tabIn hJ 75 76 gp1 dX11_about_1 (by omega) (by omega) (by rw [z3]; decide) (by decide) ?_
    have hF := hF.2.1 z3
    refine j_aload_n hJ dX11_about_76 rfl 0 rfl ?_
    refine j_ga hJ kC_0 fC_14_1 fl_X11_19 dX11_about_77 ?_
    refine j_gi hJ kC_8 fC_13_0 rfl fl_X11_130 dX11_about_80 (fun v4 ev4 gv4 => ?_)
    have hF := hF v4 ev4 gv4
    exact j_iret hJ rfl gv4 dX11_about_83 hF
  by_cases z5 : p1 = 2
  · refine j_tabIn hJ 83 84 gp1 dX11_about_1 (by omega) (by omega) (by rw [z5]; decide) (by decide) ?_
    have hF := hF.2.2.1 z5
    refine j_aload_n hJ dX11_about_84 rfl 0 rfl ?_
    refine j_ga hJ kC_0 fC_14_2 fl_X11_28 dX11_about_85 ?_
    refine j_gi hJ kC_26 fC_5_2 rfl fl_X11_541 dX11_about_88 (fun v6 ev6 gv6 => ?_)
    have hF := hF v6 ev6 gv6
    exact j_iret hJ rfl gv6 dX11_about_91 hF
  by_cases z7 : p1 = 3
  · refine j_tabIn hJ 91 92 gp1 dX11_about_1 (by omega) (by omega) (by rw [z7]; decide) (by decide) ?_
    have hF := hF.2.2.2.1 z7
    refine j_aload_n hJ dX11_about_92 rfl 0 rfl ?_
    refine j_ga hJ kC_0 fC_14_2 fl_X11_28 dX11_about_93 ?_
    refine j_gi hJ kC_26 fC_5_3 rfl fl_X11_544 dX11_about_96 (fun v8 ev8 gv8 => ?_)
    have hF := hF v8 ev8 gv8
    exact j_iret hJ rfl gv8 dX11_about_99 hF
  by_cases z9 : p1 = 4
  · refine j_tabIn hJ 99 100 gp1 dX11_about_1 (by omega) (by omega) (by rw [z9]; decide) (by decide) ?_
    have hF := hF.2.2.2.2.1 z9
    refine j_aload_n hJ dX11_about_100 rfl 0 rfl ?_
    refine j_ga hJ kC_0 fC_14_2 fl_X11_28 dX11_about_101 ?_
    refine j_gi hJ kC_26 fC_5_11 rfl fl_X11_228 dX11_about_104 (fun v10 ev10 gv10 => ?_)
    have hF := hF v10 ev10 gv10
    exact j_iret hJ rfl gv10 dX11_about_107 hF
  by_cases z11 : p1 = 5
  · refine j_tabIn hJ 107 108 gp1 dX11_about_1 (by omega) (by omega) (by rw [z11]; decide) (by decide) ?_
    have hF := hF.2.2.2.2.2.1 z11
    refine j_aload_n hJ dX11_about_108 rfl 0 rfl ?_
    refine j_ga hJ kC_0 fC_14_3 fl_X11_35 dX11_about_109 ?_
    refine j_gi hJ kC_36 fC_6_1 rfl fl_X11_301 dX11_about_112 (fun v12 ev12 gv12 => ?_)
    have hF := hF v12 ev12 gv12
    exact j_iret hJ rfl gv12 dX11_about_115 hF
  by_cases z13 : p1 = 6
  · refine j_tabIn hJ 115 116 gp1 dX11_about_1 (by omega) (by omega) (by rw [z13]; decide) (by decide) ?_
    have hF := hF.2.2.2.2.2.2.1 z13
    refine j_aload_n hJ dX11_about_116 rfl 0 rfl ?_
    refine j_ga hJ kC_0 fC_14_3 fl_X11_35 dX11_about_117 ?_
    refine j_gi hJ kC_36 fC_6_6 rfl fl_X11_547 dX11_about_120 (fun v14 ev14 gv14 => ?_)
    have hF := hF v14 ev14 gv14
    exact j_iret hJ rfl gv14 dX11_about_123 hF
  by_cases z15 : p1 = 7
  · refine j_tabIn hJ 123 124 gp1 dX11_about_1 (by omega) (by omega) (by rw [z15]; decide) (by decide) ?_
    have hF := hF.2.2.2.2.2.2.2.1 z15
    refine j_aload_n hJ dX11_about_124 rfl 0 rfl ?_
    refine j_ga hJ kC_0 fC_14_13 fl_X11_91 dX11_about_125 ?_
    refine j_gi hJ kC_280 fC_3_5 rfl fl_X11_530 dX11_about_128 (fun v16 ev16 gv16 => ?_)
    have hF := hF v16 ev16 gv16
    exact j_iret hJ rfl gv16 dX11_about_131 hF
  by_cases z17 : p1 = 8
  · refine j_tabIn hJ 131 132 gp1 dX11_about_1 (by omega) (by omega) (by rw [z17]; decide) (by decide) ?_
    have hF := hF.2.2.2.2.2.2.2.2.1 z17
    refine j_aload_n hJ dX11_about_132 rfl 0 rfl ?_
    refine j_ga hJ kC_0 fC_14_13 fl_X11_91 dX11_about_133 ?_
    refine j_gi hJ kC_280 fC_3_4 rfl fl_X11_550 dX11_about_136 (fun v18 ev18 gv18 => ?_)
    have hF := hF v18 ev18 gv18
    exact j_iret hJ rfl gv18 dX11_about_139 hF
  by_cases z19 : p1 = 9
  · refine j_tabIn hJ 139 140 gp1 dX11_about_1 (by omega) (by omega) (by rw [z19]; decide) (by decide) ?_
    have hF := hF.2.2.2.2.2.2.2.2.2.1 z19
    refine j_aload_n hJ dX11_about_140 rfl 0 rfl ?_
    refine j_ga hJ kC_0 fC_14_3 fl_X11_35 dX11_about_141 ?_
    refine j_gi hJ kC_36 fC_6_7 rfl fl_X11_310 dX11_about_144 (fun v20 ev20 gv20 => ?_)
    have hF := hF v20 ev20 gv20
    exact j_iret hJ rfl gv20 dX11_about_147 hF
  by_cases z21 : p1 = 10
  · refine j_tabIn hJ 147 148 gp1 dX11_about_1 (by omega) (by omega) (by rw [z21]; decide) (by decide) ?_
    have hF := hF.2.2.2.2.2.2.2.2.2.2.1 z21
    refine j_aload_n hJ dX11_about_148 rfl 0 rfl ?_
    refine j_gi hJ kC_0 fC_14_10 rfl fl_X11_327 dX11_about_149 (fun v22 ev22 gv22 => ?_)
    have hF := hF v22 ev22 gv22
    exact j_iret hJ rfl gv22 dX11_about_152 hF
  by_cases z23 : p1 = 11
  · refine j_tabIn hJ 152 153 gp1 dX11_about_1 (by omega) (by omega) (by rw [z23]; decide) (by decide) ?_
    have hF := hF.2.2.2.2.2.2.2.2.2.2.2.1 z23
    refine j_aload_n hJ dX11_about_153 rfl 0 rfl ?_
    refine j_ga hJ kC_0 fC_14_7 fl_X11_62 dX11_about_154 ?_
    refine j_gi hJ kC_219 fC_7_20 rfl fl_X11_465 dX11_about_157 (fun v24 ev24 gv24 => ?_)
    have hF := hF v24 ev24 gv24
    exact j_iret hJ rfl gv24 dX11_about_160 hF
  by_cases z25 : p1 = 12
  · refine j_tabIn hJ 160 161 gp1 dX11_about_1 (by omega) (by omega) (by rw [z25]; decide) (by decide) ?_
    have hF := hF.2.2.2.2.2.2.2.2.2.2.2.2.1 z25
    refine j_aload_n hJ dX11_about_161 rfl 0 rfl ?_
    refine j_ga hJ kC_0 fC_14_11 fl_X11_77 dX11_about_162 ?_
    refine j_gi hJ kC_261 fC_10_16 rfl fl_X11_491 dX11_about_165 (fun v26 ev26 gv26 => ?_)
    have hF := hF v26 ev26 gv26
    exact j_iret hJ rfl gv26 dX11_about_168 hF
  have z27 : ¬ p1 = 0 ∧ ¬ p1 = 1 ∧ ¬ p1 = 2 ∧ ¬ p1 = 3 ∧ ¬ p1 = 4 ∧ ¬ p1 = 5 ∧ ¬ p1 = 6 ∧ ¬ p1 = 7 ∧ ¬ p1 = 8 ∧ ¬ p1 = 9 ∧ ¬ p1 = 10 ∧ ¬ p1 = 11 ∧ ¬ p1 = 12 := ⟨z1, z3, z5, z7, z9, z11, z13, z15, z17, z19, z21, z23, z25⟩
  have hF := hF.2.2.2.2.2.2.2.2.2.2.2.2.2 z27
  refine j_tabOut hJ 169 gp1 dX11_about_1 (by omega) (by decide) ?_
  refine j_iconst hJ dX11_about_169 ?_
  exact j_iret hJ rfl rk_m1 dX11_about_170 hF
