def W_X9_isBlank (ad : Nat → Nat) (Q : Int → MM → Prop) (av : List Value) (M : MM) : Prop := ∃ (p1 : Int), av = [.int (Ii p1)] ∧ ri_ p1 ∧ w_X9_isBlank  Q p1 M
set_option maxHeartbeats 4000000 in
set_option maxRecDepth 100000 in
theorem c_X9_isBlank {l : Launch} {D : va_G} {cy : Nat → ClassId} {ad : Nat → Nat} (hin : jIn ad ksC.length) : jCN l D vwCl (tyC cy) cy ad ftC ksC (XtC ad) yX9_isBlank (.code yX9_isBlank cX9_isBlank 1 (some .boolean) :: Om) ({ frames := 0, cells := 0, slots := 0, locals := 0 } : Room) 3 (W_X9_isBlank ad) := by
  refine jCN_of (y := yX9_isBlank) (cc := cX9_isBlank) (nL := 1) (rk := 3) (rm := ({ frames := 0, cells := 0, slots := 0, locals := 0 } : Room)) (own := RX9) (tyC_ok cy) hin (XtC_ok ad) Om_good (by decide) rfl ?_
  intro Q av M hF
  obtain ⟨p1, rfl, gp1, hF⟩ := hF
  refine ⟨Nat.le_of_ble_eq_true rfl, fun J hJ => ?_⟩
  show J 0 [(0, .int (Ii p1))] [] M
  unfold w_X9_isBlank at hF
  refine j_iload_n hJ dX9_isBlank_0 rfl 0 rfl ?_
  refine j_bipush hJ dX9_isBlank_1 (by decide) ?_
  refine j_icmp_eq hJ 24 gp1 rk_9 dX9_isBlank_3 (by decide) (fun z1 => ?_) (fun z1 => ?_)
  · have hF := hF.1 z1
    refine j_iconst hJ dX9_isBlank_24 ?_
    refine j_goto hJ 29 dX9_isBlank_25 (by decide) ?_
    exact j_zret hJ rfl (by decide) dX9_isBlank_29 hF
  · have hF := hF.2 z1
    refine j_iload_n hJ dX9_isBlank_6 rfl 0 rfl ?_
    refine j_bipush hJ dX9_isBlank_7 (by decide) ?_
    refine j_icmp_eq hJ 24 gp1 rk_10 dX9_isBlank_9 (by decide) (fun z2 => ?_) (fun z2 => ?_)
    · have hF := hF.1 z2
      refine j_iconst hJ dX9_isBlank_24 ?_
      refine j_goto hJ 29 dX9_isBlank_25 (by decide) ?_
      exact j_zret hJ rfl (by decide) dX9_isBlank_29 hF
    · have hF := hF.2 z2
      refine j_iload_n hJ dX9_isBlank_12 rfl 0 rfl ?_
      refine j_bipush hJ dX9_isBlank_13 (by decide) ?_
      refine j_icmp_eq hJ 24 gp1 rk_13 dX9_isBlank_15 (by decide) (fun z3 => ?_) (fun z3 => ?_)
      · have hF := hF.1 z3
        refine j_iconst hJ dX9_isBlank_24 ?_
        refine j_goto hJ 29 dX9_isBlank_25 (by decide) ?_
        exact j_zret hJ rfl (by decide) dX9_isBlank_29 hF
      · have hF := hF.2 z3
        refine j_iload_n hJ dX9_isBlank_18 rfl 0 rfl ?_
        refine j_bipush hJ dX9_isBlank_19 (by decide) ?_
        refine j_icmp_ne hJ 28 gp1 rk_32 dX9_isBlank_21 (by decide) (fun z4 => ?_) (fun z4 => ?_)
        · have hF := hF.1 z4
          refine j_iconst hJ dX9_isBlank_28 ?_
          exact j_zret hJ rfl (by decide) dX9_isBlank_29 hF
        · have hF := hF.2 z4
          refine j_iconst hJ dX9_isBlank_24 ?_
          refine j_goto hJ 29 dX9_isBlank_25 (by decide) ?_
          exact j_zret hJ rfl (by decide) dX9_isBlank_29 hF
def W_X9_scanWord (ad : Nat → Nat) (Q : Int → MM → Prop) (av : List Value) (M : MM) : Prop := av = [.ref (ad 1)] ∧ w_X9_scanWord  Q  M
set_option maxHeartbeats 4000000 in
set_option maxRecDepth 100000 in
theorem k_X9_scanWord_b39 {l : Launch} {D : va_G} {cy : Nat → ClassId} {ad : Nat → Nat} {Q : Int → MM → Prop} {J : Nat → List (Nat × Value) → List Value → MM → Prop} (hin : jIn ad ksC.length)   (hJ : jOk l D vwCl (tyC cy) cy ad ftC ksC (XtC ad) Om RX9 cX9_scanWord 1 0 ({ frames := 5, cells := 0, slots := 0, locals := 128 } : Room) Q J)  : ∀ (M : MM), w_X9_scanWord_b39  Q   M → J 39 [(0, .ref (ad 1))] [] M := by
  intro  M  hF
  unfold w_X9_scanWord_b39 at hF
  refine j_aload_n hJ dX9_scanWord_39 rfl 0 rfl ?_
  refine j_aload_n hJ dX9_scanWord_40 rfl 0 rfl ?_
  refine j_gi hJ kC_1 fC_12_4 rfl fl_X9_69 dX9_scanWord_41 (fun v1 ev1 gv1 => ?_)
  have hF := hF v1 ev1 gv1
  refine j_pi hJ gv1 kC_1 fC_12_10 rfl fp_X9_78 dX9_scanWord_44 (fun M2 eM2 => ?_)
  have hF := hF M2 eM2
  refine j_aload_n hJ dX9_scanWord_47 rfl 0 rfl ?_
  refine j_lconst (x := 0) hJ dX9_scanWord_48 rfl ?_
  refine j_pl hJ lkm_0 kC_1 fC_12_11 rfl fp_X9_81 dX9_scanWord_49 (fun M3 eM3 => ?_)
  have hF := hF M3 eM3
  refine j_aload_n hJ dX9_scanWord_52 rfl 0 rfl ?_
  refine j_gi hJ kC_1 fC_12_4 rfl fl_X9_69 dX9_scanWord_53 (fun v4 ev4 gv4 => ?_)
  have hF := hF v4 ev4 gv4
  refine j_aload_n hJ dX9_scanWord_56 rfl 0 rfl ?_
  refine j_gi hJ kC_1 fC_12_1 rfl fl_X9_49 dX9_scanWord_57 (fun v5 ev5 gv5 => ?_)
  have hF := hF v5 ev5 gv5
  refine j_icmp_lt hJ 71 gv4 gv5 dX9_scanWord_60 (by decide) (fun z6 => ?_) (fun z6 => ?_)
  · have hF := hF.1 z6
    refine j_aload_n hJ dX9_scanWord_71 rfl 0 rfl ?_
    refine j_gr (e := 2) hJ kC_1 fC_12_0 fl_X9_11 dX9_scanWord_72 rfl ?_
    refine j_aload_n hJ dX9_scanWord_75 rfl 0 rfl ?_
    refine j_gi hJ kC_1 fC_12_4 rfl fl_X9_69 dX9_scanWord_76 (fun v7 ev7 gv7 => ?_)
    have hF := hF v7 ev7 gv7
    refine j_iald hJ gv7 kC_2 hF.1 hF.2.1 dX9_scanWord_79 (fun v8 ev8 gv8 => ?_)
    have hF := hF.2.2 v8 ev8 gv8
    refine j_callSz hJ (c_X9_isDigit (l := l) (D := D) (cy := cy) (ad := ad) hin) rfl om_528 ⟨rfl, rfl, Nat.le_of_ble_eq_true rfl, Nat.le_of_ble_eq_true rfl⟩ [.int (Ii v8)] mv_X9_65 hd_X9_isDigit rfl (Nat.le_of_ble_eq_true rfl) dX9_scanWord_80 ⟨v8, rfl, gv8, hF⟩ (fun r9 M10 gr9 qM10 => ?_)
    have hF := qM10 gr9
    refine j_if_eq hJ 93 (jz_ri gr9) dX9_scanWord_83 (by decide) (fun z11 => ?_) (fun z11 => ?_)
    · have hF := hF.1 z11
      refine j_aload_n hJ dX9_scanWord_93 rfl 0 rfl ?_
      refine j_gr (e := 2) hJ kC_1 fC_12_0 fl_X9_11 dX9_scanWord_94 rfl ?_
      refine j_aload_n hJ dX9_scanWord_97 rfl 0 rfl ?_
      refine j_gi hJ kC_1 fC_12_4 rfl fl_X9_69 dX9_scanWord_98 (fun v12 ev12 gv12 => ?_)
      have hF := hF v12 ev12 gv12
      refine j_iald hJ gv12 kC_2 hF.1 hF.2.1 dX9_scanWord_101 (fun v13 ev13 gv13 => ?_)
      have hF := hF.2.2 v13 ev13 gv13
      refine j_callSi hJ (c_X9_symbolOf (l := l) (D := D) (cy := cy) (ad := ad) hin) rfl om_532 ⟨rfl, rfl, Nat.le_of_ble_eq_true rfl, Nat.le_of_ble_eq_true rfl⟩ [.int (Ii v13)] mv_X9_45 hd_X9_symbolOf rfl (Nat.le_of_ble_eq_true rfl) dX9_scanWord_102 ⟨v13, rfl, gv13, hF⟩ (fun r14 M15 gr14 qM15 => ?_)
      have hF := qM15 gr14
      refine j_if_le hJ 115 gr14 dX9_scanWord_105 (by decide) (fun z16 => ?_) (fun z16 => ?_)
      · have hF := hF.1 z16
        refine j_aload_n hJ dX9_scanWord_115 rfl 0 rfl ?_
        refine j_callVv hJ (c_X9_scanSign (l := l) (D := D) (cy := cy) (ad := ad) hin) rfl om_571 ⟨rfl, rfl, Nat.le_of_ble_eq_true rfl, Nat.le_of_ble_eq_true rfl⟩ [] mv_X9_100 hd_X9_scanSignv kC_1 rfl rfl rfl (Nat.le_of_ble_eq_true rfl) dX9_scanWord_116 ⟨rfl, hF⟩ (fun M18 qM18 => ?_)
        have hF := qM18
        exact j_vret hJ rfl dX9_scanWord_119 hF
      · have hF := hF.2 z16
        refine j_aload_n hJ dX9_scanWord_108 rfl 0 rfl ?_
        refine j_callVv hJ (c_X9_scanName (l := l) (D := D) (cy := cy) (ad := ad) hin) rfl om_580 ⟨rfl, rfl, Nat.le_of_ble_eq_true rfl, Nat.le_of_ble_eq_true rfl⟩ [] mv_X9_97 hd_X9_scanNamev kC_1 rfl rfl rfl (Nat.le_of_ble_eq_true rfl) dX9_scanWord_109 ⟨rfl, hF⟩ (fun M20 qM20 => ?_)
        have hF := qM20
        refine j_goto hJ 119 dX9_scanWord_112 (by decide) ?_
        exact j_vret hJ rfl dX9_scanWord_119 hF
    · have hF := hF.2 z11
      refine j_aload_n hJ dX9_scanWord_86 rfl 0 rfl ?_
      refine j_callVv hJ (c_X9_scanNumber (l := l) (D := D) (cy := cy) (ad := ad) hin) rfl om_586 ⟨rfl, rfl, Nat.le_of_ble_eq_true rfl, Nat.le_of_ble_eq_true rfl⟩ [] mv_X9_94 hd_X9_scanNumberv kC_1 rfl rfl rfl (Nat.le_of_ble_eq_true rfl) dX9_scanWord_87 ⟨rfl, hF⟩ (fun M22 qM22 => ?_)
      have hF := qM22
      refine j_goto hJ 119 dX9_scanWord_90 (by decide) ?_
      exact j_vret hJ rfl dX9_scanWord_119 hF
  · have hF := hF.2 z6
    refine j_aload_n hJ dX9_scanWord_63 rfl 0 rfl ?_
    refine j_iconst hJ dX9_scanWord_64 ?_
    refine j_pi hJ rk_0 kC_1 fC_12_9 rfl fp_X9_75 dX9_scanWord_65 (fun M23 eM23 => ?_)
    have hF := hF M23 eM23
    refine j_goto hJ 119 dX9_scanWord_68 (by decide) ?_
    exact j_vret hJ rfl dX9_scanWord_119 hF
set_option maxHeartbeats 4000000 in
set_option maxRecDepth 100000 in
theorem k_X9_scanWord_b0 {l : Launch} {D : va_G} {cy : Nat → ClassId} {ad : Nat → Nat} {Q : Int → MM → Prop} {J : Nat → List (Nat × Value) → List Value → MM → Prop} (hin : jIn ad ksC.length)   (hJ : jOk l D vwCl (tyC cy) cy ad ftC ksC (XtC ad) Om RX9 cX9_scanWord 1 0 ({ frames := 5, cells := 0, slots := 0, locals := 128 } : Room) Q J)  : ∀ (M : MM), w_X9_scanWord_b0  Q   M → J 0 [(0, .ref (ad 1))] [] M := by
  have H9 : ∀ (n : Nat) (M : MM), jit (fun _ => False) (wb_X9_scanWord_b0  Q ) n  M → J 0 [(0, .ref (ad 1))] [] M := by
    intro n
    induction n with
    | zero => intro  M  hF; exact False.elim hF
    | succ n ih =>
    intro  M  hF
    have hF : wb_X9_scanWord_b0  Q  (jit (fun _ => False) (wb_X9_scanWord_b0  Q ) n)  M := hF
    unfold wb_X9_scanWord_b0 at hF
    refine j_aload_n hJ dX9_scanWord_0 rfl 0 rfl ?_
    refine j_gi hJ kC_1 fC_12_4 rfl fl_X9_69 dX9_scanWord_1 (fun v1 ev1 gv1 => ?_)
    have hF := hF v1 ev1 gv1
    refine j_aload_n hJ dX9_scanWord_4 rfl 0 rfl ?_
    refine j_gi hJ kC_1 fC_12_1 rfl fl_X9_49 dX9_scanWord_5 (fun v2 ev2 gv2 => ?_)
    have hF := hF v2 ev2 gv2
    refine j_icmp_ge hJ 39 gv1 gv2 dX9_scanWord_8 (by decide) (fun z3 => ?_) (fun z3 => ?_)
    · have hF := hF.1 z3
      exact j_sub hJ [0] rfl (k_X9_scanWord_b39 hin  hJ   _  hF)
    · have hF := hF.2 z3
      refine j_aload_n hJ dX9_scanWord_11 rfl 0 rfl ?_
      refine j_gr (e := 2) hJ kC_1 fC_12_0 fl_X9_11 dX9_scanWord_12 rfl ?_
      refine j_aload_n hJ dX9_scanWord_15 rfl 0 rfl ?_
      refine j_gi hJ kC_1 fC_12_4 rfl fl_X9_69 dX9_scanWord_16 (fun v4 ev4 gv4 => ?_)
      have hF := hF v4 ev4 gv4
      refine j_iald hJ gv4 kC_2 hF.1 hF.2.1 dX9_scanWord_19 (fun v5 ev5 gv5 => ?_)
      have hF := hF.2.2 v5 ev5 gv5
      refine j_callSz hJ (c_X9_isBlank (l := l) (D := D) (cy := cy) (ad := ad) hin) rfl om_590 ⟨rfl, rfl, Nat.le_of_ble_eq_true rfl, Nat.le_of_ble_eq_true rfl⟩ [.int (Ii v5)] mv_X9_91 hd_X9_isBlank rfl (Nat.le_of_ble_eq_true rfl) dX9_scanWord_20 ⟨v5, rfl, gv5, hF⟩ (fun r6 M7 gr6 qM7 => ?_)
      have hF := qM7 gr6
      refine j_if_eq hJ 39 (jz_ri gr6) dX9_scanWord_23 (by decide) (fun z8 => ?_) (fun z8 => ?_)
      · have hF := hF.1 z8
        exact j_sub hJ [0] rfl (k_X9_scanWord_b39 hin  hJ   _  hF)
      · have hF := hF.2 z8
        refine j_aload_n hJ dX9_scanWord_26 rfl 0 rfl ?_
        refine j_dup hJ dX9_scanWord_27 rfl ?_
        refine j_gi hJ kC_1 fC_12_4 rfl fl_X9_69 dX9_scanWord_28 (fun v9 ev9 gv9 => ?_)
        have hF := hF v9 ev9 gv9
        refine j_iconst hJ dX9_scanWord_31 ?_
        refine j_iadd hJ dX9_scanWord_32 ?_
        have g10 := hF.1; have hF := hF.2
        refine j_pi hJ g10 kC_1 fC_12_4 rfl fp_X9_69 dX9_scanWord_33 (fun M11 eM11 => ?_)
        have hF := hF M11 eM11
        refine j_goto hJ 0 dX9_scanWord_36 (by decide) ?_
        exact j_sub hJ [0] rfl (ih  _  hF)
  intro  M  hF
  obtain ⟨n, hF⟩ := hF
  exact H9 n  M  hF
set_option maxHeartbeats 4000000 in
set_option maxRecDepth 100000 in
theorem c_X9_scanWord {l : Launch} {D : va_G} {cy : Nat → ClassId} {ad : Nat → Nat} (hin : jIn ad ksC.length) : jCN l D vwCl (tyC cy) cy ad ftC ksC (XtC ad) yX9_scanWord (.code yX9_scanWord cX9_scanWord 1 none :: Om) ({ frames := 5, cells := 0, slots := 0, locals := 128 } : Room) 0 (W_X9_scanWord ad) := by
  refine jCN_of (y := yX9_scanWord) (cc := cX9_scanWord) (nL := 1) (rk := 0) (rm := ({ frames := 5, cells := 0, slots := 0, locals := 128 } : Room)) (own := RX9) (tyC_ok cy) hin (XtC_ok ad) Om_good (by decide) rfl ?_
  intro Q av M hF
  obtain ⟨rfl, hF⟩ := hF
  refine ⟨Nat.le_of_ble_eq_true rfl, fun J hJ => ?_⟩
  show J 0 [(0, .ref (ad 1))] [] M
  unfold w_X9_scanWord at hF
  exact j_sub hJ [0] rfl (k_X9_scanWord_b0 hin  hJ   _  hF)
def W_X9_nextWord (ad : Nat → Nat) (Q : Int → MM → Prop) (av : List Value) (M : MM) : Prop := av = [.ref (ad 1)] ∧ w_X9_nextWord  Q  M
set_option maxHeartbeats 4000000 in
set_option maxRecDepth 100000 in
theorem c_X9_nextWord {l : Launch} {D : va_G} {cy : Nat → ClassId} {ad : Nat → Nat} (hin : jIn ad ksC.length) : jCN l D vwCl (tyC cy) cy ad ftC ksC (XtC ad) yX9_nextWord (.code yX9_nextWord cX9_nextWord 1 none :: Om) ({ frames := 0, cells := 0, slots := 0, locals := 0 } : Room) 0 (W_X9_nextWord ad) := by
  refine jCN_of (y := yX9_nextWord) (cc := cX9_nextWord) (nL := 1) (rk := 0) (rm := ({ frames := 0, cells := 0, slots := 0, locals := 0 } : Room)) (own := RX9) (tyC_ok cy) hin (XtC_ok ad) Om_good (by decide) rfl ?_
  intro Q av M hF
  obtain ⟨rfl, hF⟩ := hF
  refine ⟨Nat.le_of_ble_eq_true rfl, fun J hJ => ?_⟩
  show J 0 [(0, .ref (ad 1))] [] M
  unfold w_X9_nextWord at hF
  refine j_aload_n hJ dX9_nextWord_0 rfl 0 rfl ?_
  refine j_aload_n hJ dX9_nextWord_1 rfl 0 rfl ?_
  refine j_gr (e := 4) hJ kC_1 fC_12_5 fl_X9_18 dX9_nextWord_2 rfl ?_
  refine j_aload_n hJ dX9_nextWord_5 rfl 0 rfl ?_
  refine j_gi hJ kC_1 fC_12_8 rfl fl_X9_85 dX9_nextWord_6 (fun v1 ev1 gv1 => ?_)
  have hF := hF v1 ev1 gv1
  refine j_iald hJ gv1 kC_4 hF.1 hF.2.1 dX9_nextWord_9 (fun v2 ev2 gv2 => ?_)
  have hF := hF.2.2 v2 ev2 gv2
  refine j_pi hJ gv2 kC_1 fC_12_9 rfl fp_X9_75 dX9_nextWord_10 (fun M3 eM3 => ?_)
  have hF := hF M3 eM3
  refine j_aload_n hJ dX9_nextWord_13 rfl 0 rfl ?_
  refine j_aload_n hJ dX9_nextWord_14 rfl 0 rfl ?_
  refine j_gr (e := 5) hJ kC_1 fC_12_6 fl_X9_21 dX9_nextWord_15 rfl ?_
  refine j_aload_n hJ dX9_nextWord_18 rfl 0 rfl ?_
  refine j_gi hJ kC_1 fC_12_8 rfl fl_X9_85 dX9_nextWord_19 (fun v4 ev4 gv4 => ?_)
  have hF := hF v4 ev4 gv4
  refine j_iald hJ gv4 kC_5 hF.1 hF.2.1 dX9_nextWord_22 (fun v5 ev5 gv5 => ?_)
  have hF := hF.2.2 v5 ev5 gv5
  refine j_pi hJ gv5 kC_1 fC_12_10 rfl fp_X9_78 dX9_nextWord_23 (fun M6 eM6 => ?_)
  have hF := hF M6 eM6
  refine j_aload_n hJ dX9_nextWord_26 rfl 0 rfl ?_
  refine j_aload_n hJ dX9_nextWord_27 rfl 0 rfl ?_
  refine j_gr (e := 6) hJ kC_1 fC_12_7 fl_X9_24 dX9_nextWord_28 rfl ?_
  refine j_aload_n hJ dX9_nextWord_31 rfl 0 rfl ?_
  refine j_gi hJ kC_1 fC_12_8 rfl fl_X9_85 dX9_nextWord_32 (fun v7 ev7 gv7 => ?_)
  have hF := hF v7 ev7 gv7
  refine j_lald hJ gv7 kC_6 hF.1 hF.2.1 dX9_nextWord_35 (fun v8 ev8 gv8 => ?_)
  have hF := hF.2.2 v8 ev8 gv8
  refine j_pl hJ gv8 kC_1 fC_12_11 rfl fp_X9_81 dX9_nextWord_36 (fun M9 eM9 => ?_)
  have hF := hF M9 eM9
  refine j_aload_n hJ dX9_nextWord_39 rfl 0 rfl ?_
  refine j_gi hJ kC_1 fC_12_9 rfl fl_X9_75 dX9_nextWord_40 (fun v10 ev10 gv10 => ?_)
  have hF := hF v10 ev10 gv10
  refine j_if_eq hJ 66 gv10 dX9_nextWord_43 (by decide) (fun z11 => ?_) (fun z11 => ?_)
  · have hF := hF.1 z11
    exact j_vret hJ rfl dX9_nextWord_66 hF
  · have hF := hF.2 z11
    refine j_aload_n hJ dX9_nextWord_46 rfl 0 rfl ?_
    refine j_gi hJ kC_1 fC_12_8 rfl fl_X9_85 dX9_nextWord_47 (fun v12 ev12 gv12 => ?_)
    have hF := hF v12 ev12 gv12
    refine j_sipush hJ dX9_nextWord_50 (by decide) ?_
    refine j_icmp_ge hJ 66 gv12 rk_4000 dX9_nextWord_53 (by decide) (fun z13 => ?_) (fun z13 => ?_)
    · have hF := hF.1 z13
      exact j_vret hJ rfl dX9_nextWord_66 hF
    · have hF := hF.2 z13
      refine j_aload_n hJ dX9_nextWord_56 rfl 0 rfl ?_
      refine j_dup hJ dX9_nextWord_57 rfl ?_
      refine j_gi hJ kC_1 fC_12_8 rfl fl_X9_85 dX9_nextWord_58 (fun v14 ev14 gv14 => ?_)
      have hF := hF v14 ev14 gv14
      refine j_iconst hJ dX9_nextWord_61 ?_
      refine j_iadd hJ dX9_nextWord_62 ?_
      have g15 := hF.1; have hF := hF.2
      refine j_pi hJ g15 kC_1 fC_12_8 rfl fp_X9_85 dX9_nextWord_63 (fun M16 eM16 => ?_)
      have hF := hF M16 eM16
      exact j_vret hJ rfl dX9_nextWord_66 hF
def W_X9_startWords (ad : Nat → Nat) (Q : Int → MM → Prop) (av : List Value) (M : MM) : Prop := av = [.ref (ad 1)] ∧ w_X9_startWords  Q  M
set_option maxHeartbeats 4000000 in
set_option maxRecDepth 100000 in
theorem k_X9_startWords_b58 {l : Launch} {D : va_G} {cy : Nat → ClassId} {ad : Nat → Nat} {Q : Int → MM → Prop} {J : Nat → List (Nat × Value) → List Value → MM → Prop} (hin : jIn ad ksC.length)   (hJ : jOk l D vwCl (tyC cy) cy ad ftC ksC (XtC ad) Om RX9 cX9_startWords 2 0 ({ frames := 6, cells := 0, slots := 0, locals := 148 } : Room) Q J)  : ∀ (M : MM), w_X9_startWords_b58  Q   M → J 58 [(0, .ref (ad 1))] [] M := by
  intro  M  hF
  unfold w_X9_startWords_b58 at hF
  refine j_aload_n hJ dX9_startWords_58 rfl 0 rfl ?_
  refine j_iconst hJ dX9_startWords_59 ?_
  refine j_pi hJ rk_0 kC_1 fC_12_8 rfl fp_X9_85 dX9_startWords_60 (fun M1 eM1 => ?_)
  have hF := hF M1 eM1
  refine j_aload_n hJ dX9_startWords_63 rfl 0 rfl ?_
  refine j_callVv hJ (c_X9_nextWord (l := l) (D := D) (cy := cy) (ad := ad) hin) rfl om_597 ⟨rfl, rfl, Nat.le_of_ble_eq_true rfl, Nat.le_of_ble_eq_true rfl⟩ [] mv_X9_88 hd_X9_nextWordv kC_1 rfl rfl rfl (Nat.le_of_ble_eq_true rfl) dX9_startWords_64 ⟨rfl, hF⟩ (fun M3 qM3 => ?_)
  have hF := qM3
  exact j_vret hJ rfl dX9_startWords_67 hF
set_option maxHeartbeats 4000000 in
set_option maxRecDepth 100000 in
theorem k_X9_startWords_b7 {l : Launch} {D : va_G} {cy : Nat → ClassId} {ad : Nat → Nat} {Q : Int → MM → Prop} {J : Nat → List (Nat × Value) → List Value → MM → Prop} (hin : jIn ad ksC.length)   (hJ : jOk l D vwCl (tyC cy) cy ad ftC ksC (XtC ad) Om RX9 cX9_startWords 2 0 ({ frames := 6, cells := 0, slots := 0, locals := 148 } : Room) Q J)  : ∀ (x1 : Int) (M : MM), ri_ x1 → w_X9_startWords_b7  Q  x1 M → J 7 [(0, .ref (ad 1)), (1, .int (Ii x1))] [] M := by
  have H9 : ∀ (n : Nat) (x1 : Int) (M : MM), ri_ x1 → jit (fun _ _ => False) (wb_X9_startWords_b7  Q ) n x1 M → J 7 [(0, .ref (ad 1)), (1, .int (Ii x1))] [] M := by
    intro n
    induction n with
    | zero => intro x1 M gx1 hF; exact False.elim hF
    | succ n ih =>
    intro x1 M gx1 hF
    have hF : wb_X9_startWords_b7  Q  (jit (fun _ _ => False) (wb_X9_startWords_b7  Q ) n) x1 M := hF
    unfold wb_X9_startWords_b7 at hF
    refine j_aload_n hJ dX9_startWords_7 rfl 0 rfl ?_
    refine j_callVv hJ (c_X9_scanWord (l := l) (D := D) (cy := cy) (ad := ad) hin) rfl om_593 ⟨rfl, rfl, Nat.le_of_ble_eq_true rfl, Nat.le_of_ble_eq_true rfl⟩ [] mv_X9_72 hd_X9_scanWordv kC_1 rfl rfl rfl (Nat.le_of_ble_eq_true rfl) dX9_startWords_8 ⟨rfl, hF⟩ (fun M2 qM2 => ?_)
    have hF := qM2
    refine j_aload_n hJ dX9_startWords_11 rfl 0 rfl ?_
    refine j_gr (e := 4) hJ kC_1 fC_12_5 fl_X9_18 dX9_startWords_12 rfl ?_
    refine j_iload_n hJ dX9_startWords_15 rfl 1 rfl ?_
    refine j_aload_n hJ dX9_startWords_16 rfl 0 rfl ?_
    refine j_gi hJ kC_1 fC_12_9 rfl fl_X9_75 dX9_startWords_17 (fun v3 ev3 gv3 => ?_)
    have hF := hF v3 ev3 gv3
    refine j_iast hJ gx1 gv3 kC_4 hF.1 hF.2.1 dX9_startWords_20 (fun M4 eM4 => ?_)
    have hF := hF.2.2 M4 eM4
    refine j_aload_n hJ dX9_startWords_21 rfl 0 rfl ?_
    refine j_gr (e := 5) hJ kC_1 fC_12_6 fl_X9_21 dX9_startWords_22 rfl ?_
    refine j_iload_n hJ dX9_startWords_25 rfl 1 rfl ?_
    refine j_aload_n hJ dX9_startWords_26 rfl 0 rfl ?_
    refine j_gi hJ kC_1 fC_12_10 rfl fl_X9_78 dX9_startWords_27 (fun v5 ev5 gv5 => ?_)
    have hF := hF v5 ev5 gv5
    refine j_iast hJ gx1 gv5 kC_5 hF.1 hF.2.1 dX9_startWords_30 (fun M6 eM6 => ?_)
    have hF := hF.2.2 M6 eM6
    refine j_aload_n hJ dX9_startWords_31 rfl 0 rfl ?_
    refine j_gr (e := 6) hJ kC_1 fC_12_7 fl_X9_24 dX9_startWords_32 rfl ?_
    refine j_iload_n hJ dX9_startWords_35 rfl 1 rfl ?_
    refine j_aload_n hJ dX9_startWords_36 rfl 0 rfl ?_
    refine j_gl hJ kC_1 fC_12_11 rfl fl_X9_81 dX9_startWords_37 (fun v7 ev7 gv7 => ?_)
    have hF := hF v7 ev7 gv7
    refine j_last hJ gx1 gv7 kC_6 hF.1 hF.2.1 dX9_startWords_40 (fun M8 eM8 => ?_)
    have hF := hF.2.2 M8 eM8
    refine j_iinc (lv' := [(1, .int (Ii (x1 + 1))), (0, .ref (ad 1))]) (k := 1) hJ dX9_startWords_41 rfl (by decide) rfl ?_
    have g9 := hF.1; have hF := hF.2
    refine j_aload_n hJ dX9_startWords_44 rfl 1 rfl ?_
    refine j_gi hJ kC_1 fC_12_9 rfl fl_X9_75 dX9_startWords_45 (fun v10 ev10 gv10 => ?_)
    have hF := hF v10 ev10 gv10
    refine j_if_eq hJ 58 gv10 dX9_startWords_48 (by decide) (fun z11 => ?_) (fun z11 => ?_)
    · have hF := hF.1 z11
      exact j_sub hJ [1] rfl (k_X9_startWords_b58 hin  hJ   _  hF)
    · have hF := hF.2 z11
      refine j_iload_n hJ dX9_startWords_51 rfl 0 rfl ?_
      refine j_sipush hJ dX9_startWords_52 (by decide) ?_
      refine j_icmp_le hJ 7 g9 rk_4000 dX9_startWords_55 (by decide) (fun z12 => ?_) (fun z12 => ?_)
      · have hF := hF.1 z12
        exact j_sub hJ [1, 0] rfl (ih (x1 + 1) _ g9 hF)
      · have hF := hF.2 z12
        exact j_sub hJ [1] rfl (k_X9_startWords_b58 hin  hJ   _  hF)
  intro x1 M gx1 hF
  obtain ⟨n, hF⟩ := hF
  exact H9 n x1 M gx1 hF
set_option maxHeartbeats 4000000 in
set_option maxRecDepth 100000 in
theorem c_X9_startWords {l : Launch} {D : va_G} {cy : Nat → ClassId} {ad : Nat → Nat} (hin : jIn ad ksC.length) : jCN l D vwCl (tyC cy) cy ad ftC ksC (XtC ad) yX9_startWords (.code yX9_startWords cX9_startWords 2 none :: Om) ({ frames := 6, cells := 0, slots := 0, locals := 148 } : Room) 0 (W_X9_startWords ad) := by
  refine jCN_of (y := yX9_startWords) (cc := cX9_startWords) (nL := 2) (rk := 0) (rm := ({ frames := 6, cells := 0, slots := 0, locals := 148 } : Room)) (own := RX9) (tyC_ok cy) hin (XtC_ok ad) Om_good (by decide) rfl ?_
  intro Q av M hF
  obtain ⟨rfl, hF⟩ := hF
  refine ⟨Nat.le_of_ble_eq_true rfl, fun J hJ => ?_⟩
  show J 0 [(0, .ref (ad 1))] [] M
  unfold w_X9_startWords at hF
  refine j_aload_n hJ dX9_startWords_0 rfl 0 rfl ?_
  refine j_iconst hJ dX9_startWords_1 ?_
  refine j_pi hJ rk_0 kC_1 fC_12_4 rfl fp_X9_69 dX9_startWords_2 (fun M1 eM1 => ?_)
  have hF := hF M1 eM1
  refine j_iconst hJ dX9_startWords_5 ?_
  refine j_istore_n (lv' := [(1, .int (Ii 0)), (0, .ref (ad 1))]) hJ dX9_startWords_6 rfl (by decide) rfl ?_
  exact j_sub hJ [1, 0] rfl (k_X9_startWords_b7 hin  hJ  0 _ rk_0 hF)
def W_X6_start (ad : Nat → Nat) (Q : Int → MM → Prop) (av : List Value) (M : MM) : Prop := ∃ (c : Nat), av = [.ref (ad c)] ∧ isG c ∧ w_X6_start c Q  M
set_option maxHeartbeats 4000000 in
set_option maxRecDepth 100000 in
theorem c_X6_start {l : Launch} {D : va_G} {cy : Nat → ClassId} {ad : Nat → Nat} (hin : jIn ad ksC.length) : jCN l D vwCl (tyC cy) cy ad ftC ksC (XtC ad) yX6_start (.code yX6_start cX6_start 1 none :: Om) ({ frames := 7, cells := 0, slots := 0, locals := 169 } : Room) 0 (W_X6_start ad) := by
  refine jCN_of (y := yX6_start) (cc := cX6_start) (nL := 1) (rk := 0) (rm := ({ frames := 7, cells := 0, slots := 0, locals := 169 } : Room)) (own := RX6) (tyC_ok cy) hin (XtC_ok ad) Om_good (by decide) rfl ?_
  intro Q av M hF
  obtain ⟨c, rfl, hc, hF⟩ := hF
  refine ⟨Nat.le_of_ble_eq_true rfl, fun J hJ => ?_⟩
  show J 0 [(0, .ref (ad c))] [] M
  unfold w_X6_start at hF
  refine j_aload_n hJ dX6_start_0 rfl 0 rfl ?_
  refine j_iconst hJ dX6_start_1 ?_
  refine j_pi hJ rk_0 (kG_0 hc) fC_9_5 rfl fp_X6_72 dX6_start_2 (fun M1 eM1 => ?_)
  have hF := hF M1 eM1
  refine j_aload_n hJ dX6_start_5 rfl 0 rfl ?_
  refine j_iconst hJ dX6_start_6 ?_
  refine j_pi hJ rk_0 (kG_0 hc) fC_9_6 rfl fp_X6_75 dX6_start_7 (fun M2 eM2 => ?_)
  have hF := hF M2 eM2
  refine j_aload_n hJ dX6_start_10 rfl 0 rfl ?_
  refine j_iconst hJ dX6_start_11 ?_
  refine j_pi hJ rk_m1 (kG_0 hc) fC_9_7 rfl fp_X6_78 dX6_start_12 (fun M3 eM3 => ?_)
  have hF := hF M3 eM3
  refine j_aload_n hJ dX6_start_15 rfl 0 rfl ?_
  refine j_iconst hJ dX6_start_16 ?_
  refine j_pz hJ (by decide) (kG_0 hc) fC_9_8 rfl fp_X6_81 dX6_start_17 (fun M4 eM4 => ?_)
  have hF := hF M4 eM4
  refine j_aload_n hJ dX6_start_20 rfl 0 rfl ?_
  refine j_iconst hJ dX6_start_21 ?_
  refine j_pz hJ (by decide) (kG_0 hc) fC_9_9 rfl fp_X6_84 dX6_start_22 (fun M5 eM5 => ?_)
  have hF := hF M5 eM5
  refine j_aload_n hJ dX6_start_25 rfl 0 rfl ?_
  refine j_iconst hJ dX6_start_26 ?_
  refine j_pi hJ rk_0 (kG_0 hc) fC_9_10 rfl fp_X6_87 dX6_start_27 (fun M6 eM6 => ?_)
  have hF := hF M6 eM6
  refine j_aload_n hJ dX6_start_30 rfl 0 rfl ?_
  refine j_iconst hJ dX6_start_31 ?_
  refine j_pi hJ rk_0 (kG_0 hc) fC_9_11 rfl fp_X6_90 dX6_start_32 (fun M7 eM7 => ?_)
  have hF := hF M7 eM7
  refine j_aload_n hJ dX6_start_35 rfl 0 rfl ?_
  refine j_iconst hJ dX6_start_36 ?_
  refine j_pi hJ rk_0 (kG_0 hc) fC_9_12 rfl fp_X6_93 dX6_start_37 (fun M8 eM8 => ?_)
  have hF := hF M8 eM8
  refine j_aload_n hJ dX6_start_40 rfl 0 rfl ?_
  refine j_iconst hJ dX6_start_41 ?_
  refine j_pz hJ (by decide) (kG_0 hc) fC_9_13 rfl fp_X6_62 dX6_start_42 (fun M9 eM9 => ?_)
  have hF := hF M9 eM9
  refine j_aload_n hJ dX6_start_45 rfl 0 rfl ?_
  refine j_iconst hJ dX6_start_46 ?_
  refine j_pi hJ rk_0 (kG_0 hc) fC_9_16 rfl fp_X6_96 dX6_start_47 (fun M10 eM10 => ?_)
  have hF := hF M10 eM10
  refine j_aload_n hJ dX6_start_50 rfl 0 rfl ?_
  refine j_iconst hJ dX6_start_51 ?_
  refine j_pi hJ rk_0 (kG_0 hc) fC_9_18 rfl fp_X6_99 dX6_start_52 (fun M11 eM11 => ?_)
  have hF := hF M11 eM11
  refine j_aload_n hJ dX6_start_55 rfl 0 rfl ?_
  refine j_ga hJ (kG_0 hc) fC_9_0 fl_X6_9 dX6_start_56 ?_
  refine j_callVv hJ (c_X9_startWords (l := l) (D := D) (cy := cy) (ad := ad) hin) rfl om_601 ⟨rfl, rfl, Nat.le_of_ble_eq_true rfl, Nat.le_of_ble_eq_true rfl⟩ [] mv_X6_102 hd_X9_startWordsv kC_1 rfl rfl rfl (Nat.le_of_ble_eq_true rfl) dX6_start_59 ⟨rfl, hF⟩ (fun M13 qM13 => ?_)
  have hF := qM13
  exact j_vret hJ rfl dX6_start_62 hF
def W_X6_fail (ad : Nat → Nat) (Q : Int → MM → Prop) (av : List Value) (M : MM) : Prop := ∃ (c : Nat) (p1 : Int), av = [.ref (ad c), .int (Ii p1)] ∧ isG c ∧ ri_ p1 ∧ w_X6_fail c Q p1 M
set_option maxHeartbeats 4000000 in
set_option maxRecDepth 100000 in
theorem c_X6_fail {l : Launch} {D : va_G} {cy : Nat → ClassId} {ad : Nat → Nat} (hin : jIn ad ksC.length) : jCN l D vwCl (tyC cy) cy ad ftC ksC (XtC ad) yX6_fail (.code yX6_fail cX6_fail 2 (some .boolean) :: Om) ({ frames := 0, cells := 0, slots := 0, locals := 0 } : Room) 3 (W_X6_fail ad) := by
  refine jCN_of (y := yX6_fail) (cc := cX6_fail) (nL := 2) (rk := 3) (rm := ({ frames := 0, cells := 0, slots := 0, locals := 0 } : Room)) (own := RX6) (tyC_ok cy) hin (XtC_ok ad) Om_good (by decide) rfl ?_
  intro Q av M hF
  obtain ⟨c, p1, rfl, hc, gp1, hF⟩ := hF
  refine ⟨Nat.le_of_ble_eq_true rfl, fun J hJ => ?_⟩
  show J 0 [(0, .ref (ad c)), (1, .int (Ii p1))] [] M
  unfold w_X6_fail at hF
  refine j_aload_n hJ dX6_fail_0 rfl 0 rfl ?_
  refine j_iload_n hJ dX6_fail_1 rfl 1 rfl ?_
  refine j_pi hJ gp1 (kG_0 hc) fC_9_6 rfl fp_X6_75 dX6_fail_2 (fun M1 eM1 => ?_)
  have hF := hF M1 eM1
  refine j_aload_n hJ dX6_fail_5 rfl 0 rfl ?_
  refine j_aload_n hJ dX6_fail_6 rfl 0 rfl ?_
  refine j_ga hJ (kG_0 hc) fC_9_0 fl_X6_9 dX6_fail_7 ?_
  refine j_gi hJ kC_1 fC_12_10 rfl fl_X6_111 dX6_fail_10 (fun v2 ev2 gv2 => ?_)
  have hF := hF v2 ev2 gv2
  refine j_pi hJ gv2 (kG_0 hc) fC_9_7 rfl fp_X6_78 dX6_fail_13 (fun M3 eM3 => ?_)
  have hF := hF M3 eM3
  refine j_iconst hJ dX6_fail_16 ?_
  exact j_zret hJ rfl (by decide) dX6_fail_17 hF
def W_X6_addNode (ad : Nat → Nat) (Q : Int → MM → Prop) (av : List Value) (M : MM) : Prop := ∃ (c : Nat), av = [.ref (ad c)] ∧ isG c ∧ w_X6_addNode c Q  M
set_option maxHeartbeats 4000000 in
set_option maxRecDepth 100000 in
theorem c_X6_addNode {l : Launch} {D : va_G} {cy : Nat → ClassId} {ad : Nat → Nat} (hin : jIn ad ksC.length) : jCN l D vwCl (tyC cy) cy ad ftC ksC (XtC ad) yX6_addNode (.code yX6_addNode cX6_addNode 1 (some .boolean) :: Om) ({ frames := 1, cells := 0, slots := 0, locals := 21 } : Room) 3 (W_X6_addNode ad) := by
  refine jCN_of (y := yX6_addNode) (cc := cX6_addNode) (nL := 1) (rk := 3) (rm := ({ frames := 1, cells := 0, slots := 0, locals := 21 } : Room)) (own := RX6) (tyC_ok cy) hin (XtC_ok ad) Om_good (by decide) rfl ?_
  intro Q av M hF
  obtain ⟨c, rfl, hc, hF⟩ := hF
  refine ⟨Nat.le_of_ble_eq_true rfl, fun J hJ => ?_⟩
  show J 0 [(0, .ref (ad c))] [] M
  unfold w_X6_addNode at hF
  refine j_aload_n hJ dX6_addNode_0 rfl 0 rfl ?_
  refine j_gi hJ (kG_0 hc) fC_9_10 rfl fl_X6_87 dX6_addNode_1 (fun v1 ev1 gv1 => ?_)
  have hF := hF v1 ev1 gv1
  refine j_bipush hJ dX6_addNode_4 (by decide) ?_
  refine j_icmp_ne hJ 15 gv1 rk_120 dX6_addNode_6 (by decide) (fun z2 => ?_) (fun z2 => ?_)
  · have hF := hF.1 z2
    refine j_aload_n hJ dX6_addNode_15 rfl 0 rfl ?_
    refine j_dup hJ dX6_addNode_16 rfl ?_
    refine j_gi hJ (kG_0 hc) fC_9_10 rfl fl_X6_87 dX6_addNode_17 (fun v3 ev3 gv3 => ?_)
    have hF := hF v3 ev3 gv3
    refine j_iconst hJ dX6_addNode_20 ?_
    refine j_iadd hJ dX6_addNode_21 ?_
    have g4 := hF.1; have hF := hF.2
    refine j_pi hJ g4 (kG_0 hc) fC_9_10 rfl fp_X6_87 dX6_addNode_22 (fun M5 eM5 => ?_)
    have hF := hF M5 eM5
    refine j_iconst hJ dX6_addNode_25 ?_
    exact j_zret hJ rfl (by decide) dX6_addNode_26 hF
  · have hF := hF.2 z2
    refine j_aload_n hJ dX6_addNode_9 rfl 0 rfl ?_
    refine j_iconst hJ dX6_addNode_10 ?_
    refine j_callVz hJ (c_X6_fail (l := l) (D := D) (cy := cy) (ad := ad) hin) rfl om_614 ⟨rfl, rfl, Nat.le_of_ble_eq_true rfl, Nat.le_of_ble_eq_true rfl⟩ [.int (Ii 4)] mv_X6_112 hd_X6_failv (kG_0 hc) rfl rfl rfl (Nat.le_of_ble_eq_true rfl) dX6_addNode_11 ⟨c, 4, rfl, hc, rk_4, hF⟩ (fun r6 M7 gr6 qM7 => ?_)
    have hF := qM7 gr6
    exact j_zret hJ rfl gr6 dX6_addNode_14 hF
def W_X6_emit (ad : Nat → Nat) (Q : Int → MM → Prop) (av : List Value) (M : MM) : Prop := ∃ (c : Nat) (p1 : Int) (p2 : Int) (p3 : Int) (p4 : Int), av = [.ref (ad c), .int (Ii p1), .int (Ii p2), .int (Ii p3), .long (Ll p4)] ∧ isG c ∧ ri_ p1 ∧ ri_ p2 ∧ ri_ p3 ∧ rl_ p4 ∧ w_X6_emit c Q p1 p2 p3 p4 M
set_option maxHeartbeats 4000000 in
set_option maxRecDepth 100000 in
theorem k_X6_emit_b70 {l : Launch} {D : va_G} {cy : Nat → ClassId} {ad : Nat → Nat} {Q : Int → MM → Prop} {J : Nat → List (Nat × Value) → List Value → MM → Prop} (hin : jIn ad ksC.length) {c : Nat} (hc : isG c) (hJ : jOk l D vwCl (tyC cy) cy ad ftC ksC (XtC ad) Om RX6 cX6_emit 7 1 ({ frames := 1, cells := 0, slots := 0, locals := 40 } : Room) Q J)  : ∀ (x1 x6 : Int) (M : MM), ri_ x1 → ri_ x6 → w_X6_emit_b70 c Q  x1 x6 M → J 70 [(0, .ref (ad c)), (1, .int (Ii x1)), (6, .int (Ii x6))] [] M := by
  intro x1 x6 M gx1 gx6 hF
  unfold w_X6_emit_b70 at hF
  refine j_iload_n hJ dX6_emit_70 rfl 1 rfl ?_
  refine j_bipush hJ dX6_emit_71 (by decide) ?_
  refine j_icmp_ne hJ 81 gx1 rk_8 dX6_emit_73 (by decide) (fun z1 => ?_) (fun z1 => ?_)
  · have hF := hF.1 z1
    refine j_iload hJ dX6_emit_81 2 rfl ?_
    exact j_iret hJ rfl gx6 dX6_emit_83 hF
  · have hF := hF.2 z1
    refine j_aload_n hJ dX6_emit_76 rfl 0 rfl ?_
    refine j_iconst hJ dX6_emit_77 ?_
    refine j_pz hJ (by decide) (kG_0 hc) fC_9_9 rfl fp_X6_84 dX6_emit_78 (fun M2 eM2 => ?_)
    have hF := hF M2 eM2
    refine j_iload hJ dX6_emit_81 2 rfl ?_
    exact j_iret hJ rfl gx6 dX6_emit_83 hF
set_option maxHeartbeats 4000000 in
set_option maxRecDepth 100000 in
theorem k_X6_emit_b65 {l : Launch} {D : va_G} {cy : Nat → ClassId} {ad : Nat → Nat} {Q : Int → MM → Prop} {J : Nat → List (Nat × Value) → List Value → MM → Prop} (hin : jIn ad ksC.length) {c : Nat} (hc : isG c) (hJ : jOk l D vwCl (tyC cy) cy ad ftC ksC (XtC ad) Om RX6 cX6_emit 7 1 ({ frames := 1, cells := 0, slots := 0, locals := 40 } : Room) Q J)  : ∀ (x1 x6 : Int) (M : MM), ri_ x1 → ri_ x6 → w_X6_emit_b65 c Q  x1 x6 M → J 65 [(0, .ref (ad c)), (1, .int (Ii x1)), (6, .int (Ii x6))] [] M := by
  intro x1 x6 M gx1 gx6 hF
  unfold w_X6_emit_b65 at hF
  refine j_aload_n hJ dX6_emit_65 rfl 0 rfl ?_
  refine j_iconst hJ dX6_emit_66 ?_
  refine j_pz hJ (by decide) (kG_0 hc) fC_9_8 rfl fp_X6_81 dX6_emit_67 (fun M1 eM1 => ?_)
  have hF := hF M1 eM1
  exact j_sub hJ [0, 1, 2] rfl (k_X6_emit_b70 hin hc hJ  x1 x6 _ gx1 gx6 hF)
set_option maxHeartbeats 4000000 in
set_option maxRecDepth 100000 in
theorem c_X6_emit {l : Launch} {D : va_G} {cy : Nat → ClassId} {ad : Nat → Nat} (hin : jIn ad ksC.length) : jCN l D vwCl (tyC cy) cy ad ftC ksC (XtC ad) yX6_emit (.code yX6_emit cX6_emit 7 (some .int) :: Om) ({ frames := 1, cells := 0, slots := 0, locals := 40 } : Room) 1 (W_X6_emit ad) := by
  refine jCN_of (y := yX6_emit) (cc := cX6_emit) (nL := 7) (rk := 1) (rm := ({ frames := 1, cells := 0, slots := 0, locals := 40 } : Room)) (own := RX6) (tyC_ok cy) hin (XtC_ok ad) Om_good (by decide) rfl ?_
  intro Q av M hF
  obtain ⟨c, p1, p2, p3, p4, rfl, hc, gp1, gp2, gp3, gp4, hF⟩ := hF
  refine ⟨Nat.le_of_ble_eq_true rfl, fun J hJ => ?_⟩
  show J 0 [(0, .ref (ad c)), (1, .int (Ii p1)), (2, .int (Ii p2)), (3, .int (Ii p3)), (4, .long (Ll p4))] [] M
  unfold w_X6_emit at hF
  refine j_aload_n hJ dX6_emit_0 rfl 0 rfl ?_
  refine j_gi hJ (kG_0 hc) fC_9_5 rfl fl_X6_72 dX6_emit_1 (fun v1 ev1 gv1 => ?_)
  have hF := hF v1 ev1 gv1
  refine j_sipush hJ dX6_emit_4 (by decide) ?_
  refine j_mmin hJ gv1 rk_499 ⟨om_622, om_11, om_12, om_13⟩ ⟨Nat.le_of_ble_eq_true rfl, Nat.le_of_ble_eq_true rfl⟩ dX6_emit_7 ?_
  refine j_istore (lv' := [(6, .int (Ii (min v1 499))), (0, .ref (ad c)), (1, .int (Ii p1)), (2, .int (Ii p2)), (3, .int (Ii p3)), (4, .long (Ll p4))]) hJ dX6_emit_10 (by decide) rfl ?_
  refine j_aload_n hJ dX6_emit_12 rfl 1 rfl ?_
  refine j_gr (e := (c + 1)) hJ (kG_0 hc) fC_9_1 fl_X6_15 dX6_emit_13 rfl ?_
  refine j_iload hJ dX6_emit_16 0 rfl ?_
  refine j_iload_n hJ dX6_emit_18 rfl 2 rfl ?_
  refine j_iast hJ (ri_min gv1 rk_499) gp1 (kG_1 hc) hF.1 hF.2.1 dX6_emit_19 (fun M2 eM2 => ?_)
  have hF := hF.2.2 M2 eM2
  refine j_aload_n hJ dX6_emit_20 rfl 1 rfl ?_
  refine j_gr (e := (c + 2)) hJ (kG_0 hc) fC_9_2 fl_X6_19 dX6_emit_21 rfl ?_
  refine j_iload hJ dX6_emit_24 0 rfl ?_
  refine j_iload_n hJ dX6_emit_26 rfl 3 rfl ?_
  refine j_iast hJ (ri_min gv1 rk_499) gp2 (kG_2 hc) hF.1 hF.2.1 dX6_emit_27 (fun M3 eM3 => ?_)
  have hF := hF.2.2 M3 eM3
  refine j_aload_n hJ dX6_emit_28 rfl 1 rfl ?_
  refine j_gr (e := (c + 3)) hJ (kG_0 hc) fC_9_3 fl_X6_22 dX6_emit_29 rfl ?_
  refine j_iload hJ dX6_emit_32 0 rfl ?_
  refine j_iload_n hJ dX6_emit_34 rfl 4 rfl ?_
  refine j_iast hJ (ri_min gv1 rk_499) gp3 (kG_3 hc) hF.1 hF.2.1 dX6_emit_35 (fun M4 eM4 => ?_)
  have hF := hF.2.2 M4 eM4
  refine j_aload_n hJ dX6_emit_36 rfl 1 rfl ?_
  refine j_gr (e := (c + 4)) hJ (kG_0 hc) fC_9_4 fl_X6_25 dX6_emit_37 rfl ?_
  refine j_iload hJ dX6_emit_40 0 rfl ?_
  refine j_lload hJ dX6_emit_42 5 rfl ?_
  refine j_last hJ (ri_min gv1 rk_499) gp4 (kG_4 hc) hF.1 hF.2.1 dX6_emit_44 (fun M5 eM5 => ?_)
  have hF := hF.2.2 M5 eM5
  refine j_aload_n hJ dX6_emit_45 rfl 1 rfl ?_
  refine j_iload hJ dX6_emit_46 0 rfl ?_
  refine j_iconst hJ dX6_emit_48 ?_
  refine j_iadd hJ dX6_emit_49 ?_
  have g6 := hF.1; have hF := hF.2
  refine j_pi hJ g6 (kG_0 hc) fC_9_5 rfl fp_X6_72 dX6_emit_50 (fun M7 eM7 => ?_)
  have hF := hF M7 eM7
  refine j_iload_n hJ dX6_emit_53 rfl 2 rfl ?_
  refine j_bipush hJ dX6_emit_54 (by decide) ?_
  refine j_icmp_eq hJ 65 gp1 rk_31 dX6_emit_56 (by decide) (fun z8 => ?_) (fun z8 => ?_)
  · have hF := hF.1 z8
    exact j_sub hJ [1, 2, 0] rfl (k_X6_emit_b65 hin hc hJ  p1 (min v1 499) _ gp1 (ri_min gv1 rk_499) hF)
  · have hF := hF.2 z8
    refine j_iload_n hJ dX6_emit_59 rfl 2 rfl ?_
    refine j_bipush hJ dX6_emit_60 (by decide) ?_
    refine j_icmp_ne hJ 70 gp1 rk_8 dX6_emit_62 (by decide) (fun z9 => ?_) (fun z9 => ?_)
    · have hF := hF.1 z9
      exact j_sub hJ [1, 2, 0] rfl (k_X6_emit_b70 hin hc hJ  p1 (min v1 499) _ gp1 (ri_min gv1 rk_499) hF)
    · have hF := hF.2 z9
      exact j_sub hJ [1, 2, 0] rfl (k_X6_emit_b65 hin hc hJ  p1 (min v1 499) _ gp1 (ri_min gv1 rk_499) hF)
def W_X6_comparisonOf (ad : Nat → Nat) (Q : Int → MM → Prop) (av : List Value) (M : MM) : Prop := ∃ (p1 : Int), av = [.int (Ii p1)] ∧ ri_ p1 ∧ w_X6_comparisonOf  Q p1 M
set_option maxHeartbeats 4000000 in
set_option maxRecDepth 100000 in
theorem c_X6_comparisonOf {l : Launch} {D : va_G} {cy : Nat → ClassId} {ad : Nat → Nat} (hin : jIn ad ksC.length) : jCN l D vwCl (tyC cy) cy ad ftC ksC (XtC ad) yX6_comparisonOf (.code yX6_comparisonOf cX6_comparisonOf 1 (some .int) :: Om) ({ frames := 0, cells := 0, slots := 0, locals := 0 } : Room) 1 (W_X6_comparisonOf ad) := by
  refine jCN_of (y := yX6_comparisonOf) (cc := cX6_comparisonOf) (nL := 1) (rk := 1) (rm := ({ frames := 0, cells := 0, slots := 0, locals := 0 } : Room)) (own := RX6) (tyC_ok cy) hin (XtC_ok ad) Om_good (by decide) rfl ?_
  intro Q av M hF
  obtain ⟨p1, rfl, gp1, hF⟩ := hF
  refine ⟨Nat.le_of_ble_eq_true rfl, fun J hJ => ?_⟩
  show J 0 [(0, .int (Ii p1))] [] M
  unfold w_X6_comparisonOf at hF
  refine j_iload_n hJ dX6_comparisonOf_0 rfl 0 rfl ?_
  by_cases z1 : p1 = 12
  · refine j_look hJ 67 68 gp1 dX6_comparisonOf_1 (by decide) (by rw [z1]; decide) (by decide) ?_
    have hF := hF.1 z1
    refine j_bipush hJ dX6_comparisonOf_68 (by decide) ?_
    exact j_iret hJ rfl rk_16 dX6_comparisonOf_70 hF
  by_cases z2 : p1 = 13
  · refine j_look hJ 73 74 gp1 dX6_comparisonOf_1 (by decide) (by rw [z2]; decide) (by decide) ?_
    have hF := hF.2.1 z2
    refine j_bipush hJ dX6_comparisonOf_74 (by decide) ?_
    exact j_iret hJ rfl rk_18 dX6_comparisonOf_76 hF
  by_cases z3 : p1 = 14
  · refine j_look hJ 79 80 gp1 dX6_comparisonOf_1 (by decide) (by rw [z3]; decide) (by decide) ?_
    have hF := hF.2.2.1 z3
    refine j_bipush hJ dX6_comparisonOf_80 (by decide) ?_
    exact j_iret hJ rfl rk_20 dX6_comparisonOf_82 hF
  by_cases z4 : p1 = 20
  · refine j_look hJ 70 71 gp1 dX6_comparisonOf_1 (by decide) (by rw [z4]; decide) (by decide) ?_
    have hF := hF.2.2.2.1 z4
    refine j_bipush hJ dX6_comparisonOf_71 (by decide) ?_
    exact j_iret hJ rfl rk_17 dX6_comparisonOf_73 hF
  by_cases z5 : p1 = 21
  · refine j_look hJ 76 77 gp1 dX6_comparisonOf_1 (by decide) (by rw [z5]; decide) (by decide) ?_
    have hF := hF.2.2.2.2.1 z5
    refine j_bipush hJ dX6_comparisonOf_77 (by decide) ?_
    exact j_iret hJ rfl rk_19 dX6_comparisonOf_79 hF
  by_cases z6 : p1 = 22
  · refine j_look hJ 82 83 gp1 dX6_comparisonOf_1 (by decide) (by rw [z6]; decide) (by decide) ?_
    have hF := hF.2.2.2.2.2.1 z6
    refine j_bipush hJ dX6_comparisonOf_83 (by decide) ?_
    exact j_iret hJ rfl rk_21 dX6_comparisonOf_85 hF
  by_cases z7 : p1 = 42
  · refine j_look hJ 85 86 gp1 dX6_comparisonOf_1 (by decide) (by rw [z7]; decide) (by decide) ?_
    have hF := hF.2.2.2.2.2.2.1 z7
    refine j_bipush hJ dX6_comparisonOf_86 (by decide) ?_
    exact j_iret hJ rfl rk_14 dX6_comparisonOf_88 hF
  have z8 : ¬ p1 = 12 ∧ ¬ p1 = 13 ∧ ¬ p1 = 14 ∧ ¬ p1 = 20 ∧ ¬ p1 = 21 ∧ ¬ p1 = 22 ∧ ¬ p1 = 42 := ⟨z1, z2, z3, z4, z5, z6, z7⟩
  have hF := hF.2.2.2.2.2.2.2 z8
  refine j_look hJ 88 89 gp1 dX6_comparisonOf_1 (by decide) (by show (if 12 = p1 then 67 else if 13 = p1 then 73 else if 14 = p1 then 79 else if 20 = p1 then 70 else if 21 = p1 then 76 else if 22 = p1 then 82 else if 42 = p1 then 85 else 88 : Int) = 88; rw [if_neg (by omega), if_neg (by omega), if_neg (by omega), if_neg (by omega), if_neg (by omega), if_neg (by omega), if_neg (by omega)]) (by decide) ?_
  refine j_iconst hJ dX6_comparisonOf_89 ?_
  exact j_iret hJ rfl rk_m1 dX6_comparisonOf_90 hF
def W_X6_refuse (ad : Nat → Nat) (Q : Int → MM → Prop) (av : List Value) (M : MM) : Prop := ∃ (c : Nat), av = [.ref (ad c)] ∧ isG c ∧ w_X6_refuse c Q  M
set_option maxHeartbeats 4000000 in
set_option maxRecDepth 100000 in
theorem k_X6_refuse_b17 {l : Launch} {D : va_G} {cy : Nat → ClassId} {ad : Nat → Nat} {Q : Int → MM → Prop} {J : Nat → List (Nat × Value) → List Value → MM → Prop} (hin : jIn ad ksC.length) {c : Nat} (hc : isG c) (hJ : jOk l D vwCl (tyC cy) cy ad ftC ksC (XtC ad) Om RX6 cX6_refuse 1 3 ({ frames := 1, cells := 0, slots := 0, locals := 21 } : Room) Q J)  : ∀ (s0 : Int) (M : MM), ri_ s0 → w_X6_refuse_b17 c Q  s0 M → J 17 [] [.int (Ii s0), .ref (ad c)] M := by
  intro s0 M gs0 hF
  unfold w_X6_refuse_b17 at hF
  refine j_callVz hJ (c_X6_fail (l := l) (D := D) (cy := cy) (ad := ad) hin) rfl om_614 ⟨rfl, rfl, Nat.le_of_ble_eq_true rfl, Nat.le_of_ble_eq_true rfl⟩ [.int (Ii s0)] mv_X6_112 hd_X6_failv (kG_0 hc) rfl rfl rfl (Nat.le_of_ble_eq_true rfl) dX6_refuse_17 ⟨c, s0, rfl, hc, gs0, hF⟩ (fun r1 M2 gr1 qM2 => ?_)
  have hF := qM2 gr1
  exact j_zret hJ rfl gr1 dX6_refuse_20 hF
set_option maxHeartbeats 4000000 in
set_option maxRecDepth 100000 in
theorem c_X6_refuse {l : Launch} {D : va_G} {cy : Nat → ClassId} {ad : Nat → Nat} (hin : jIn ad ksC.length) : jCN l D vwCl (tyC cy) cy ad ftC ksC (XtC ad) yX6_refuse (.code yX6_refuse cX6_refuse 1 (some .boolean) :: Om) ({ frames := 1, cells := 0, slots := 0, locals := 21 } : Room) 3 (W_X6_refuse ad) := by
  refine jCN_of (y := yX6_refuse) (cc := cX6_refuse) (nL := 1) (rk := 3) (rm := ({ frames := 1, cells := 0, slots := 0, locals := 21 } : Room)) (own := RX6) (tyC_ok cy) hin (XtC_ok ad) Om_good (by decide) rfl ?_
  intro Q av M hF
  obtain ⟨c, rfl, hc, hF⟩ := hF
  refine ⟨Nat.le_of_ble_eq_true rfl, fun J hJ => ?_⟩
  show J 0 [(0, .ref (ad c))] [] M
  unfold w_X6_refuse at hF
  refine j_aload_n hJ dX6_refuse_0 rfl 0 rfl ?_
  refine j_aload_n hJ dX6_refuse_1 rfl 0 rfl ?_
  refine j_ga hJ (kG_0 hc) fC_9_0 fl_X6_9 dX6_refuse_2 ?_
  refine j_gi hJ kC_1 fC_12_9 rfl fl_X6_45 dX6_refuse_5 (fun v1 ev1 gv1 => ?_)
  have hF := hF v1 ev1 gv1
  refine j_iconst hJ dX6_refuse_8 ?_
  refine j_icmp_ne hJ 16 gv1 rk_1 dX6_refuse_9 (by decide) (fun z2 => ?_) (fun z2 => ?_)
  · have hF := hF.1 z2
    refine j_iconst hJ dX6_refuse_16 ?_
    exact j_sub hJ [] rfl (k_X6_refuse_b17 hin hc hJ  1 _ rk_1 hF)
  · have hF := hF.2 z2
    refine j_iconst hJ dX6_refuse_12 ?_
    refine j_goto hJ 17 dX6_refuse_13 (by decide) ?_
    exact j_sub hJ [] rfl (k_X6_refuse_b17 hin hc hJ  2 _ rk_2 hF)
def W_X6_pass (ad : Nat → Nat) (Q : Int → MM → Prop) (av : List Value) (M : MM) : Prop := ∃ (c : Nat) (p1 : Int), av = [.ref (ad c), .int (Ii p1)] ∧ isG c ∧ ri_ p1 ∧ w_X6_pass c Q p1 M
set_option maxHeartbeats 4000000 in
set_option maxRecDepth 100000 in
theorem c_X6_pass {l : Launch} {D : va_G} {cy : Nat → ClassId} {ad : Nat → Nat} (hin : jIn ad ksC.length) : jCN l D vwCl (tyC cy) cy ad ftC ksC (XtC ad) yX6_pass (.code yX6_pass cX6_pass 2 (some .boolean) :: Om) ({ frames := 2, cells := 0, slots := 0, locals := 41 } : Room) 3 (W_X6_pass ad) := by
  refine jCN_of (y := yX6_pass) (cc := cX6_pass) (nL := 2) (rk := 3) (rm := ({ frames := 2, cells := 0, slots := 0, locals := 41 } : Room)) (own := RX6) (tyC_ok cy) hin (XtC_ok ad) Om_good (by decide) rfl ?_
  intro Q av M hF
  obtain ⟨c, p1, rfl, hc, gp1, hF⟩ := hF
  refine ⟨Nat.le_of_ble_eq_true rfl, fun J hJ => ?_⟩
  show J 0 [(0, .ref (ad c)), (1, .int (Ii p1))] [] M
  unfold w_X6_pass at hF
  refine j_aload_n hJ dX6_pass_0 rfl 0 rfl ?_
  refine j_ga hJ (kG_0 hc) fC_9_0 fl_X6_9 dX6_pass_1 ?_
  refine j_gi hJ kC_1 fC_12_9 rfl fl_X6_45 dX6_pass_4 (fun v1 ev1 gv1 => ?_)
  have hF := hF v1 ev1 gv1
  refine j_iload_n hJ dX6_pass_7 rfl 1 rfl ?_
  refine j_icmp_eq hJ 16 gv1 gp1 dX6_pass_8 (by decide) (fun z2 => ?_) (fun z2 => ?_)
  · have hF := hF.1 z2
    refine j_aload_n hJ dX6_pass_16 rfl 0 rfl ?_
    refine j_ga hJ (kG_0 hc) fC_9_0 fl_X6_9 dX6_pass_17 ?_
    refine j_callVv hJ (c_X9_nextWord (l := l) (D := D) (cy := cy) (ad := ad) hin) rfl om_597 ⟨rfl, rfl, Nat.le_of_ble_eq_true rfl, Nat.le_of_ble_eq_true rfl⟩ [] mv_X6_69 hd_X9_nextWordv kC_1 rfl rfl rfl (Nat.le_of_ble_eq_true rfl) dX6_pass_20 ⟨rfl, hF⟩ (fun M4 qM4 => ?_)
    have hF := qM4
    refine j_iconst hJ dX6_pass_23 ?_
    exact j_zret hJ rfl (by decide) dX6_pass_24 hF
  · have hF := hF.2 z2
    refine j_aload_n hJ dX6_pass_11 rfl 0 rfl ?_
    refine j_callVz hJ (c_X6_refuse (l := l) (D := D) (cy := cy) (ad := ad) hin) rfl om_643 ⟨rfl, rfl, Nat.le_of_ble_eq_true rfl, Nat.le_of_ble_eq_true rfl⟩ [] mv_X6_51 hd_X6_refusev (kG_0 hc) rfl rfl rfl (Nat.le_of_ble_eq_true rfl) dX6_pass_12 ⟨c, rfl, hc, hF⟩ (fun r5 M6 gr5 qM6 => ?_)
    have hF := qM6 gr5
    exact j_zret hJ rfl gr5 dX6_pass_15 hF
def W_X6_addNest (ad : Nat → Nat) (Q : Int → MM → Prop) (av : List Value) (M : MM) : Prop := ∃ (c : Nat), av = [.ref (ad c)] ∧ isG c ∧ w_X6_addNest c Q  M
set_option maxHeartbeats 4000000 in
set_option maxRecDepth 100000 in
theorem c_X6_addNest {l : Launch} {D : va_G} {cy : Nat → ClassId} {ad : Nat → Nat} (hin : jIn ad ksC.length) : jCN l D vwCl (tyC cy) cy ad ftC ksC (XtC ad) yX6_addNest (.code yX6_addNest cX6_addNest 1 (some .boolean) :: Om) ({ frames := 1, cells := 0, slots := 0, locals := 21 } : Room) 3 (W_X6_addNest ad) := by
  refine jCN_of (y := yX6_addNest) (cc := cX6_addNest) (nL := 1) (rk := 3) (rm := ({ frames := 1, cells := 0, slots := 0, locals := 21 } : Room)) (own := RX6) (tyC_ok cy) hin (XtC_ok ad) Om_good (by decide) rfl ?_
  intro Q av M hF
  obtain ⟨c, rfl, hc, hF⟩ := hF
  refine ⟨Nat.le_of_ble_eq_true rfl, fun J hJ => ?_⟩
  show J 0 [(0, .ref (ad c))] [] M
  unfold w_X6_addNest at hF
  refine j_aload_n hJ dX6_addNest_0 rfl 0 rfl ?_
  refine j_gi hJ (kG_0 hc) fC_9_11 rfl fl_X6_90 dX6_addNest_1 (fun v1 ev1 gv1 => ?_)
  have hF := hF v1 ev1 gv1
  refine j_bipush hJ dX6_addNest_4 (by decide) ?_
  refine j_icmp_ne hJ 15 gv1 rk_10 dX6_addNest_6 (by decide) (fun z2 => ?_) (fun z2 => ?_)
  · have hF := hF.1 z2
    refine j_aload_n hJ dX6_addNest_15 rfl 0 rfl ?_
    refine j_dup hJ dX6_addNest_16 rfl ?_
    refine j_gi hJ (kG_0 hc) fC_9_11 rfl fl_X6_90 dX6_addNest_17 (fun v3 ev3 gv3 => ?_)
    have hF := hF v3 ev3 gv3
    refine j_iconst hJ dX6_addNest_20 ?_
    refine j_iadd hJ dX6_addNest_21 ?_
    have g4 := hF.1; have hF := hF.2
    refine j_pi hJ g4 (kG_0 hc) fC_9_11 rfl fp_X6_90 dX6_addNest_22 (fun M5 eM5 => ?_)
    have hF := hF M5 eM5
    refine j_iconst hJ dX6_addNest_25 ?_
    exact j_zret hJ rfl (by decide) dX6_addNest_26 hF
  · have hF := hF.2 z2
    refine j_aload_n hJ dX6_addNest_9 rfl 0 rfl ?_
    refine j_iconst hJ dX6_addNest_10 ?_
    refine j_callVz hJ (c_X6_fail (l := l) (D := D) (cy := cy) (ad := ad) hin) rfl om_614 ⟨rfl, rfl, Nat.le_of_ble_eq_true rfl, Nat.le_of_ble_eq_true rfl⟩ [.int (Ii 4)] mv_X6_112 hd_X6_failv (kG_0 hc) rfl rfl rfl (Nat.le_of_ble_eq_true rfl) dX6_addNest_11 ⟨c, 4, rfl, hc, rk_4, hF⟩ (fun r6 M7 gr6 qM7 => ?_)
    have hF := qM7 gr6
    exact j_zret hJ rfl gr6 dX6_addNest_14 hF
def W_X6_readLeaf (ad : Nat → Nat) (Q : Int → MM → Prop) (av : List Value) (M : MM) : Prop := ∃ (c : Nat) (p1 : Int) (p2 : Int) (p3 : Int), av = [.ref (ad c), .int (Ii p1), .int (Ii p2), .long (Ll p3)] ∧ isG c ∧ ri_ p1 ∧ ri_ p2 ∧ rl_ p3 ∧ w_X6_readLeaf c Q p1 p2 p3 M
set_option maxHeartbeats 4000000 in
set_option maxRecDepth 100000 in
theorem c_X6_readLeaf {l : Launch} {D : va_G} {cy : Nat → ClassId} {ad : Nat → Nat} (hin : jIn ad ksC.length) : jCN l D vwCl (tyC cy) cy ad ftC ksC (XtC ad) yX6_readLeaf (.code yX6_readLeaf cX6_readLeaf 5 (some .boolean) :: Om) ({ frames := 2, cells := 0, slots := 0, locals := 66 } : Room) 3 (W_X6_readLeaf ad) := by
  refine jCN_of (y := yX6_readLeaf) (cc := cX6_readLeaf) (nL := 5) (rk := 3) (rm := ({ frames := 2, cells := 0, slots := 0, locals := 66 } : Room)) (own := RX6) (tyC_ok cy) hin (XtC_ok ad) Om_good (by decide) rfl ?_
  intro Q av M hF
  obtain ⟨c, p1, p2, p3, rfl, hc, gp1, gp2, gp3, hF⟩ := hF
  refine ⟨Nat.le_of_ble_eq_true rfl, fun J hJ => ?_⟩
  show J 0 [(0, .ref (ad c)), (1, .int (Ii p1)), (2, .int (Ii p2)), (3, .long (Ll p3))] [] M
  unfold w_X6_readLeaf at hF
  refine j_aload_n hJ dX6_readLeaf_0 rfl 0 rfl ?_
  refine j_callVz hJ (c_X6_addNode (l := l) (D := D) (cy := cy) (ad := ad) hin) rfl om_618 ⟨rfl, rfl, Nat.le_of_ble_eq_true rfl, Nat.le_of_ble_eq_true rfl⟩ [] mv_X6_115 hd_X6_addNodev (kG_0 hc) rfl rfl rfl (Nat.le_of_ble_eq_true rfl) dX6_readLeaf_1 ⟨c, rfl, hc, hF⟩ (fun r1 M2 gr1 qM2 => ?_)
  have hF := qM2 gr1
  refine j_if_ne hJ 9 (jz_ri gr1) dX6_readLeaf_4 (by decide) (fun z3 => ?_) (fun z3 => ?_)
  · have hF := hF.1 z3
    refine j_aload_n hJ dX6_readLeaf_9 rfl 0 rfl ?_
    refine j_iload_n hJ dX6_readLeaf_10 rfl 1 rfl ?_
    refine j_iload_n hJ dX6_readLeaf_11 rfl 2 rfl ?_
    refine j_iconst hJ dX6_readLeaf_12 ?_
    refine j_lload_n hJ dX6_readLeaf_13 rfl 3 rfl ?_
    refine j_callVi hJ (c_X6_emit (l := l) (D := D) (cy := cy) (ad := ad) hin) rfl om_623 ⟨rfl, rfl, Nat.le_of_ble_eq_true rfl, Nat.le_of_ble_eq_true rfl⟩ [.int (Ii p1), .int (Ii p2), .int (Ii 0), .long (Ll p3)] mv_X6_58 hd_X6_emitv (kG_0 hc) rfl rfl rfl (Nat.le_of_ble_eq_true rfl) dX6_readLeaf_14 ⟨c, p1, p2, 0, p3, rfl, hc, gp1, gp2, rk_0, gp3, hF⟩ (fun r4 M5 gr4 qM5 => ?_)
    have hF := qM5 gr4
    refine j_pop hJ dX6_readLeaf_17 rfl ?_
    refine j_aload_n hJ dX6_readLeaf_18 rfl 0 rfl ?_
    refine j_ga hJ (kG_0 hc) fC_9_0 fl_X6_9 dX6_readLeaf_19 ?_
    refine j_callVv hJ (c_X9_nextWord (l := l) (D := D) (cy := cy) (ad := ad) hin) rfl om_597 ⟨rfl, rfl, Nat.le_of_ble_eq_true rfl, Nat.le_of_ble_eq_true rfl⟩ [] mv_X6_69 hd_X9_nextWordv kC_1 rfl rfl rfl (Nat.le_of_ble_eq_true rfl) dX6_readLeaf_22 ⟨rfl, hF⟩ (fun M7 qM7 => ?_)
    have hF := qM7
    refine j_iconst hJ dX6_readLeaf_25 ?_
    exact j_zret hJ rfl (by decide) dX6_readLeaf_26 hF
  · have hF := hF.2 z3
    refine j_iconst hJ dX6_readLeaf_7 ?_
    exact j_zret hJ rfl (by decide) dX6_readLeaf_8 hF
def W_X6_readVariable (ad : Nat → Nat) (Q : Int → MM → Prop) (av : List Value) (M : MM) : Prop := ∃ (c : Nat), av = [.ref (ad c)] ∧ isG c ∧ w_X6_readVariable c Q  M
set_option maxHeartbeats 4000000 in
set_option maxRecDepth 100000 in
theorem k_X6_readVariable_b7 {l : Launch} {D : va_G} {cy : Nat → ClassId} {ad : Nat → Nat} {Q : Int → MM → Prop} {J : Nat → List (Nat × Value) → List Value → MM → Prop} (hin : jIn ad ksC.length) {c : Nat} (hc : isG c) (hJ : jOk l D vwCl (tyC cy) cy ad ftC ksC (XtC ad) Om RX6 cX6_readVariable 2 3 ({ frames := 3, cells := 0, slots := 0, locals := 90 } : Room) Q J)  : ∀ (x1 : Int) (M : MM), ri_ x1 → w_X6_readVariable_b7 c Q  x1 M → J 7 [(0, .ref (ad c)), (1, .int (Ii x1))] [] M := by
  have H9 : ∀ (n : Nat) (x1 : Int) (M : MM), ri_ x1 → jit (fun _ _ => False) (wb_X6_readVariable_b7 c Q ) n x1 M → J 7 [(0, .ref (ad c)), (1, .int (Ii x1))] [] M := by
    intro n
    induction n with
    | zero => intro x1 M gx1 hF; exact False.elim hF
    | succ n ih =>
    intro x1 M gx1 hF
    have hF : wb_X6_readVariable_b7 c Q  (jit (fun _ _ => False) (wb_X6_readVariable_b7 c Q ) n) x1 M := hF
    unfold wb_X6_readVariable_b7 at hF
    refine j_iload_n hJ dX6_readVariable_7 rfl 1 rfl ?_
    refine j_if_lt hJ 47 gx1 dX6_readVariable_8 (by decide) (fun z1 => ?_) (fun z1 => ?_)
    · have hF := hF.1 z1
      refine j_aload_n hJ dX6_readVariable_47 rfl 0 rfl ?_
      refine j_iconst hJ dX6_readVariable_48 ?_
      refine j_callVz hJ (c_X6_fail (l := l) (D := D) (cy := cy) (ad := ad) hin) rfl om_614 ⟨rfl, rfl, Nat.le_of_ble_eq_true rfl, Nat.le_of_ble_eq_true rfl⟩ [.int (Ii 3)] mv_X6_112 hd_X6_failv (kG_0 hc) rfl rfl rfl (Nat.le_of_ble_eq_true rfl) dX6_readVariable_49 ⟨c, 3, rfl, hc, rk_3, hF⟩ (fun r2 M3 gr2 qM3 => ?_)
      have hF := qM3 gr2
      exact j_zret hJ rfl gr2 dX6_readVariable_52 hF
    · have hF := hF.2 z1
      refine j_aload_n hJ dX6_readVariable_11 rfl 0 rfl ?_
      refine j_gr (e := (c + 5)) hJ (kG_0 hc) fC_9_14 fl_X6_29 dX6_readVariable_12 rfl ?_
      refine j_iload_n hJ dX6_readVariable_15 rfl 1 rfl ?_
      refine j_lald hJ gx1 (kG_5 hc) hF.1 hF.2.1 dX6_readVariable_16 (fun v4 ev4 gv4 => ?_)
      have hF := hF.2.2 v4 ev4 gv4
      refine j_aload_n hJ dX6_readVariable_17 rfl 0 rfl ?_
      refine j_ga hJ (kG_0 hc) fC_9_0 fl_X6_9 dX6_readVariable_18 ?_
      refine j_gl hJ kC_1 fC_12_11 rfl fl_X6_118 dX6_readVariable_21 (fun v5 ev5 gv5 => ?_)
      have hF := hF v5 ev5 gv5
      refine j_lcmp_ne hJ 41 gv4 gv5 dX6_readVariable_24 dX6_readVariable_25 (by decide) (fun z6 => ?_) (fun z6 => ?_)
      · have hF := hF.1 z6
        refine j_iinc (lv' := [(1, .int (Ii (x1 + (-1)))), (0, .ref (ad c))]) (k := 1) hJ dX6_readVariable_41 rfl (by decide) rfl ?_
        have g7 := hF.1; have hF := hF.2
        refine j_goto hJ 7 dX6_readVariable_44 (by decide) ?_
        exact j_sub hJ [1, 0] rfl (ih (x1 + (-1)) _ g7 hF)
      · have hF := hF.2 z6
        refine j_aload_n hJ dX6_readVariable_28 rfl 0 rfl ?_
        refine j_iconst hJ dX6_readVariable_29 ?_
        refine j_aload_n hJ dX6_readVariable_30 rfl 0 rfl ?_
        refine j_gr (e := (c + 6)) hJ (kG_0 hc) fC_9_15 fl_X6_32 dX6_readVariable_31 rfl ?_
        refine j_iload_n hJ dX6_readVariable_34 rfl 1 rfl ?_
        refine j_iald hJ gx1 (kG_6 hc) hF.1 hF.2.1 dX6_readVariable_35 (fun v8 ev8 gv8 => ?_)
        have hF := hF.2.2 v8 ev8 gv8
        refine j_lconst (x := 0) hJ dX6_readVariable_36 rfl ?_
        refine j_callVz hJ (c_X6_readLeaf (l := l) (D := D) (cy := cy) (ad := ad) hin) rfl om_679 ⟨rfl, rfl, Nat.le_of_ble_eq_true rfl, Nat.le_of_ble_eq_true rfl⟩ [.int (Ii 5), .int (Ii v8), .long (Ll 0)] mv_X6_159 hd_X6_readLeafv (kG_0 hc) rfl rfl rfl (Nat.le_of_ble_eq_true rfl) dX6_readVariable_37 ⟨c, 5, v8, 0, rfl, hc, rk_5, gv8, lkm_0, hF⟩ (fun r9 M10 gr9 qM10 => ?_)
        have hF := qM10 gr9
        exact j_zret hJ rfl gr9 dX6_readVariable_40 hF
  intro x1 M gx1 hF
  obtain ⟨n, hF⟩ := hF
  exact H9 n x1 M gx1 hF
set_option maxHeartbeats 4000000 in
set_option maxRecDepth 100000 in
theorem c_X6_readVariable {l : Launch} {D : va_G} {cy : Nat → ClassId} {ad : Nat → Nat} (hin : jIn ad ksC.length) : jCN l D vwCl (tyC cy) cy ad ftC ksC (XtC ad) yX6_readVariable (.code yX6_readVariable cX6_readVariable 2 (some .boolean) :: Om) ({ frames := 3, cells := 0, slots := 0, locals := 90 } : Room) 3 (W_X6_readVariable ad) := by
  refine jCN_of (y := yX6_readVariable) (cc := cX6_readVariable) (nL := 2) (rk := 3) (rm := ({ frames := 3, cells := 0, slots := 0, locals := 90 } : Room)) (own := RX6) (tyC_ok cy) hin (XtC_ok ad) Om_good (by decide) rfl ?_
  intro Q av M hF
  obtain ⟨c, rfl, hc, hF⟩ := hF
  refine ⟨Nat.le_of_ble_eq_true rfl, fun J hJ => ?_⟩
  show J 0 [(0, .ref (ad c))] [] M
  unfold w_X6_readVariable at hF
  refine j_aload_n hJ dX6_readVariable_0 rfl 0 rfl ?_
  refine j_gi hJ (kG_0 hc) fC_9_16 rfl fl_X6_96 dX6_readVariable_1 (fun v1 ev1 gv1 => ?_)
  have hF := hF v1 ev1 gv1
  refine j_iconst hJ dX6_readVariable_4 ?_
  refine j_isub hJ dX6_readVariable_5 ?_
  have g2 := hF.1; have hF := hF.2
  refine j_istore_n (lv' := [(1, .int (Ii (v1 - 1))), (0, .ref (ad c))]) hJ dX6_readVariable_6 rfl (by decide) rfl ?_
  exact j_sub hJ [1, 0] rfl (k_X6_readVariable_b7 hin hc hJ  (v1 - 1) _ g2 hF)
def W_X6_readThing (ad : Nat → Nat) (Q : Int → MM → Prop) (av : List Value) (M : MM) : Prop := ∃ (c : Nat), av = [.ref (ad c)] ∧ isG c ∧ w_X6_readThing c Q  M
set_option maxHeartbeats 4000000 in
set_option maxRecDepth 100000 in
theorem c_X6_readThing {l : Launch} {D : va_G} {cy : Nat → ClassId} {ad : Nat → Nat} (hin : jIn ad ksC.length) : jCN l D vwCl (tyC cy) cy ad ftC ksC (XtC ad) yX6_readThing (.code yX6_readThing cX6_readThing 1 (some .boolean) :: Om) ({ frames := 3, cells := 0, slots := 0, locals := 66 } : Room) 3 (W_X6_readThing ad) := by
  refine jCN_of (y := yX6_readThing) (cc := cX6_readThing) (nL := 1) (rk := 3) (rm := ({ frames := 3, cells := 0, slots := 0, locals := 66 } : Room)) (own := RX6) (tyC_ok cy) hin (XtC_ok ad) Om_good (by decide) rfl ?_
  intro Q av M hF
  obtain ⟨c, rfl, hc, hF⟩ := hF
  refine ⟨Nat.le_of_ble_eq_true rfl, fun J hJ => ?_⟩
  show J 0 [(0, .ref (ad c))] [] M
  unfold w_X6_readThing at hF
  refine j_aload_n hJ dX6_readThing_0 rfl 0 rfl ?_
  refine j_callVz hJ (c_X6_addNode (l := l) (D := D) (cy := cy) (ad := ad) hin) rfl om_618 ⟨rfl, rfl, Nat.le_of_ble_eq_true rfl, Nat.le_of_ble_eq_true rfl⟩ [] mv_X6_115 hd_X6_addNodev (kG_0 hc) rfl rfl rfl (Nat.le_of_ble_eq_true rfl) dX6_readThing_1 ⟨c, rfl, hc, hF⟩ (fun r1 M2 gr1 qM2 => ?_)
  have hF := qM2 gr1
  refine j_if_ne hJ 9 (jz_ri gr1) dX6_readThing_4 (by decide) (fun z3 => ?_) (fun z3 => ?_)
  · have hF := hF.1 z3
    refine j_aload_n hJ dX6_readThing_9 rfl 0 rfl ?_
    refine j_ga hJ (kG_0 hc) fC_9_0 fl_X6_9 dX6_readThing_10 ?_
    refine j_callVv hJ (c_X9_nextWord (l := l) (D := D) (cy := cy) (ad := ad) hin) rfl om_597 ⟨rfl, rfl, Nat.le_of_ble_eq_true rfl, Nat.le_of_ble_eq_true rfl⟩ [] mv_X6_69 hd_X9_nextWordv kC_1 rfl rfl rfl (Nat.le_of_ble_eq_true rfl) dX6_readThing_13 ⟨rfl, hF⟩ (fun M5 qM5 => ?_)
    have hF := qM5
    refine j_aload_n hJ dX6_readThing_16 rfl 0 rfl ?_
    refine j_iconst hJ dX6_readThing_17 ?_
    refine j_iconst hJ dX6_readThing_18 ?_
    refine j_iconst hJ dX6_readThing_19 ?_
    refine j_aload_n hJ dX6_readThing_20 rfl 0 rfl ?_
    refine j_ga hJ (kG_0 hc) fC_9_0 fl_X6_9 dX6_readThing_21 ?_
    refine j_gl hJ kC_1 fC_12_11 rfl fl_X6_118 dX6_readThing_24 (fun v6 ev6 gv6 => ?_)
    have hF := hF v6 ev6 gv6
    refine j_callVi hJ (c_X6_emit (l := l) (D := D) (cy := cy) (ad := ad) hin) rfl om_623 ⟨rfl, rfl, Nat.le_of_ble_eq_true rfl, Nat.le_of_ble_eq_true rfl⟩ [.int (Ii 4), .int (Ii 0), .int (Ii 0), .long (Ll v6)] mv_X6_58 hd_X6_emitv (kG_0 hc) rfl rfl rfl (Nat.le_of_ble_eq_true rfl) dX6_readThing_27 ⟨c, 4, 0, 0, v6, rfl, hc, rk_4, rk_0, rk_0, gv6, hF⟩ (fun r7 M8 gr7 qM8 => ?_)
    have hF := qM8 gr7
    refine j_pop hJ dX6_readThing_30 rfl ?_
    refine j_aload_n hJ dX6_readThing_31 rfl 0 rfl ?_
    refine j_iconst hJ dX6_readThing_32 ?_
    refine j_callVz hJ (c_X6_pass (l := l) (D := D) (cy := cy) (ad := ad) hin) rfl om_647 ⟨rfl, rfl, Nat.le_of_ble_eq_true rfl, Nat.le_of_ble_eq_true rfl⟩ [.int (Ii 3)] mv_X6_122 hd_X6_passv (kG_0 hc) rfl rfl rfl (Nat.le_of_ble_eq_true rfl) dX6_readThing_33 ⟨c, 3, rfl, hc, rk_3, hF⟩ (fun r9 M10 gr9 qM10 => ?_)
    have hF := qM10 gr9
    exact j_zret hJ rfl gr9 dX6_readThing_36 hF
  · have hF := hF.2 z3
    refine j_iconst hJ dX6_readThing_7 ?_
    exact j_zret hJ rfl (by decide) dX6_readThing_8 hF
def rm_gq_ (dp : Nat) : Room := { frames := 4 + dp, cells := 0, slots := 0, locals := 111 + 24 * dp }
def W_X6_readE (dp : Nat) (ad : Nat → Nat) (Q : Int → MM → Prop) (av : List Value) (M : MM) : Prop := ∃ (c : Nat), av = [.ref (ad c)] ∧ isG c ∧ gq_ c dp 0 Q [] M
def W_X6_readAnds (dp : Nat) (ad : Nat → Nat) (Q : Int → MM → Prop) (av : List Value) (M : MM) : Prop := ∃ (c : Nat), av = [.ref (ad c)] ∧ isG c ∧ gq_ c dp 1 Q [] M
def W_X6_readNots (dp : Nat) (ad : Nat → Nat) (Q : Int → MM → Prop) (av : List Value) (M : MM) : Prop := ∃ (c : Nat), av = [.ref (ad c)] ∧ isG c ∧ gq_ c dp 2 Q [] M
def W_X6_readComparison (dp : Nat) (ad : Nat → Nat) (Q : Int → MM → Prop) (av : List Value) (M : MM) : Prop := ∃ (c : Nat), av = [.ref (ad c)] ∧ isG c ∧ gq_ c dp 3 Q [] M
def W_X6_readSums (dp : Nat) (ad : Nat → Nat) (Q : Int → MM → Prop) (av : List Value) (M : MM) : Prop := ∃ (c : Nat), av = [.ref (ad c)] ∧ isG c ∧ gq_ c dp 4 Q [] M
def W_X6_readProducts (dp : Nat) (ad : Nat → Nat) (Q : Int → MM → Prop) (av : List Value) (M : MM) : Prop := ∃ (c : Nat), av = [.ref (ad c)] ∧ isG c ∧ gq_ c dp 5 Q [] M
def W_X6_readSigned (dp : Nat) (ad : Nat → Nat) (Q : Int → MM → Prop) (av : List Value) (M : MM) : Prop := ∃ (c : Nat), av = [.ref (ad c)] ∧ isG c ∧ gq_ c dp 6 Q [] M
def W_X6_readP (dp : Nat) (ad : Nat → Nat) (Q : Int → MM → Prop) (av : List Value) (M : MM) : Prop := ∃ (c : Nat), av = [.ref (ad c)] ∧ isG c ∧ gq_ c dp 7 Q [] M
def W_X6_readTail (dp : Nat) (ad : Nat → Nat) (Q : Int → MM → Prop) (av : List Value) (M : MM) : Prop := ∃ (c : Nat), av = [.ref (ad c)] ∧ isG c ∧ gq_ c dp 8 Q [] M
def W_X6_readAtom (dp : Nat) (ad : Nat → Nat) (Q : Int → MM → Prop) (av : List Value) (M : MM) : Prop := ∃ (c : Nat), av = [.ref (ad c)] ∧ isG c ∧ gq_ c dp 9 Q [] M
def W_X6_readInner (dp : Nat) (ad : Nat → Nat) (Q : Int → MM → Prop) (av : List Value) (M : MM) : Prop := ∃ (c : Nat), av = [.ref (ad c)] ∧ isG c ∧ gq_ c dp 10 Q [] M
def W_X6_readFold (dp : Nat) (ad : Nat → Nat) (Q : Int → MM → Prop) (av : List Value) (M : MM) : Prop := ∃ (c : Nat), av = [.ref (ad c)] ∧ isG c ∧ gq_ c dp 11 Q [] M
def W_X6_readFoldBody (dp : Nat) (ad : Nat → Nat) (Q : Int → MM → Prop) (av : List Value) (M : MM) : Prop := ∃ (c : Nat) (p1 : Int) (p2 : Int), av = [.ref (ad c), .int (Ii p1), .int (Ii p2)] ∧ isG c ∧ ri_ p1 ∧ ri_ p2 ∧ gq_ c dp 12 Q [p1, p2] M
def W_X6_readSet (dp : Nat) (ad : Nat → Nat) (Q : Int → MM → Prop) (av : List Value) (M : MM) : Prop := ∃ (c : Nat) (p1 : Int), av = [.ref (ad c), .int (Ii p1)] ∧ isG c ∧ ri_ p1 ∧ gq_ c dp 13 Q [p1] M
def W_X6_readWhere (dp : Nat) (ad : Nat → Nat) (Q : Int → MM → Prop) (av : List Value) (M : MM) : Prop := ∃ (c : Nat) (p1 : Int), av = [.ref (ad c), .int (Ii p1)] ∧ isG c ∧ ri_ p1 ∧ gq_ c dp 14 Q [p1] M
set_option maxHeartbeats 4000000 in
set_option maxRecDepth 100000 in
theorem k_X6_readE_b11 {l : Launch} {D : va_G} {cy : Nat → ClassId} {ad : Nat → Nat} {dp : Nat} {Q : Int → MM → Prop} {J : Nat → List (Nat × Value) → List Value → MM → Prop} (hin : jIn ad ksC.length) {c : Nat} (hc : isG c) (hg0 : jCN l D vwCl (tyC cy) cy ad ftC ksC (XtC ad) yX6_readE (.code yX6_readE cX6_readE 3 (some .boolean) :: Om) (rm_gq_ dp) 3 (W_X6_readE dp ad)) (hg1 : jCN l D vwCl (tyC cy) cy ad ftC ksC (XtC ad) yX6_readAnds (.code yX6_readAnds cX6_readAnds 3 (some .boolean) :: Om) (rm_gq_ dp) 3 (W_X6_readAnds dp ad)) (hg2 : jCN l D vwCl (tyC cy) cy ad ftC ksC (XtC ad) yX6_readNots (.code yX6_readNots cX6_readNots 3 (some .boolean) :: Om) (rm_gq_ dp) 3 (W_X6_readNots dp ad)) (hg3 : jCN l D vwCl (tyC cy) cy ad ftC ksC (XtC ad) yX6_readComparison (.code yX6_readComparison cX6_readComparison 2 (some .boolean) :: Om) (rm_gq_ dp) 3 (W_X6_readComparison dp ad)) (hg4 : jCN l D vwCl (tyC cy) cy ad ftC ksC (XtC ad) yX6_readSums (.code yX6_readSums cX6_readSums 3 (some .boolean) :: Om) (rm_gq_ dp) 3 (W_X6_readSums dp ad)) (hg5 : jCN l D vwCl (tyC cy) cy ad ftC ksC (XtC ad) yX6_readProducts (.code yX6_readProducts cX6_readProducts 3 (some .boolean) :: Om) (rm_gq_ dp) 3 (W_X6_readProducts dp ad)) (hg6 : jCN l D vwCl (tyC cy) cy ad ftC ksC (XtC ad) yX6_readSigned (.code yX6_readSigned cX6_readSigned 3 (some .boolean) :: Om) (rm_gq_ dp) 3 (W_X6_readSigned dp ad)) (hg7 : jCN l D vwCl (tyC cy) cy ad ftC ksC (XtC ad) yX6_readP (.code yX6_readP cX6_readP 3 (some .boolean) :: Om) (rm_gq_ dp) 3 (W_X6_readP dp ad)) (hg8 : jCN l D vwCl (tyC cy) cy ad ftC ksC (XtC ad) yX6_readTail (.code yX6_readTail cX6_readTail 3 (some .boolean) :: Om) (rm_gq_ dp) 3 (W_X6_readTail dp ad)) (hg9 : jCN l D vwCl (tyC cy) cy ad ftC ksC (XtC ad) yX6_readAtom (.code yX6_readAtom cX6_readAtom 1 (some .boolean) :: Om) (rm_gq_ dp) 3 (W_X6_readAtom dp ad)) (hg10 : jCN l D vwCl (tyC cy) cy ad ftC ksC (XtC ad) yX6_readInner (.code yX6_readInner cX6_readInner 1 (some .boolean) :: Om) (rm_gq_ dp) 3 (W_X6_readInner dp ad)) (hg11 : jCN l D vwCl (tyC cy) cy ad ftC ksC (XtC ad) yX6_readFold (.code yX6_readFold cX6_readFold 5 (some .boolean) :: Om) (rm_gq_ dp) 3 (W_X6_readFold dp ad)) (hg12 : jCN l D vwCl (tyC cy) cy ad ftC ksC (XtC ad) yX6_readFoldBody (.code yX6_readFoldBody cX6_readFoldBody 4 (some .boolean) :: Om) (rm_gq_ dp) 3 (W_X6_readFoldBody dp ad)) (hg13 : jCN l D vwCl (tyC cy) cy ad ftC ksC (XtC ad) yX6_readSet (.code yX6_readSet cX6_readSet 3 (some .boolean) :: Om) (rm_gq_ dp) 3 (W_X6_readSet dp ad)) (hg14 : jCN l D vwCl (tyC cy) cy ad ftC ksC (XtC ad) yX6_readWhere (.code yX6_readWhere cX6_readWhere 2 (some .boolean) :: Om) (rm_gq_ dp) 3 (W_X6_readWhere dp ad)) (hJ : jOk l D vwCl (tyC cy) cy ad ftC ksC (XtC ad) Om RX6 cX6_readE 3 3 (rm_gq_ (dp + 1)) Q J)  : ∀ (x1 : Int) (M : MM), ri_ x1 → w_X6_readE_b11 c (gq_ c dp) Q  x1 M → J 11 [(0, .ref (ad c)), (1, .int (Ii x1))] [] M := by
  have H9 : ∀ (n : Nat) (x1 : Int) (M : MM), ri_ x1 → jit (fun _ _ => False) (wb_X6_readE_b11 c (gq_ c dp) Q ) n x1 M → J 11 [(0, .ref (ad c)), (1, .int (Ii x1))] [] M := by
    intro n
    induction n with
    | zero => intro x1 M gx1 hF; exact False.elim hF
    | succ n ih =>
    intro x1 M gx1 hF
    have hF : wb_X6_readE_b11 c (gq_ c dp) Q  (jit (fun _ _ => False) (wb_X6_readE_b11 c (gq_ c dp) Q ) n) x1 M := hF
    unfold wb_X6_readE_b11 at hF
    refine j_iload_n hJ dX6_readE_11 rfl 1 rfl ?_
    refine j_bipush hJ dX6_readE_12 (by decide) ?_
    refine j_icmp_gt hJ 90 gx1 rk_120 dX6_readE_14 (by decide) (fun z1 => ?_) (fun z1 => ?_)
    · have hF := hF.1 z1
      refine j_iconst hJ dX6_readE_90 ?_
      exact j_zret hJ rfl (by decide) dX6_readE_91 hF
    · have hF := hF.2 z1
      refine j_aload_n hJ dX6_readE_17 rfl 0 rfl ?_
      refine j_ga hJ (kG_0 hc) fC_9_0 fl_X6_9 dX6_readE_18 ?_
      refine j_gi hJ kC_1 fC_12_9 rfl fl_X6_45 dX6_readE_21 (fun v2 ev2 gv2 => ?_)
      have hF := hF v2 ev2 gv2
      refine j_bipush hJ dX6_readE_24 (by decide) ?_
      refine j_icmp_ne hJ 90 gv2 rk_37 dX6_readE_26 (by decide) (fun z3 => ?_) (fun z3 => ?_)
      · have hF := hF.1 z3
        refine j_iconst hJ dX6_readE_90 ?_
        exact j_zret hJ rfl (by decide) dX6_readE_91 hF
      · have hF := hF.2 z3
        refine j_aload_n hJ dX6_readE_29 rfl 0 rfl ?_
        refine j_callVz hJ (c_X6_addNode (l := l) (D := D) (cy := cy) (ad := ad) hin) rfl om_618 ⟨rfl, rfl, by show _ ≤ _; simp only [rm_gq_]; omega, by show _ ≤ _; simp only [rm_gq_]; omega⟩ [] mv_X6_115 hd_X6_addNodev (kG_0 hc) rfl rfl rfl (Nat.le_of_ble_eq_true rfl) dX6_readE_30 ⟨c, rfl, hc, hF⟩ (fun r4 M5 gr4 qM5 => ?_)
        have hF := qM5 gr4
        refine j_if_ne hJ 38 (jz_ri gr4) dX6_readE_33 (by decide) (fun z6 => ?_) (fun z6 => ?_)
        · have hF := hF.1 z6
          refine j_aload_n hJ dX6_readE_38 rfl 0 rfl ?_
          refine j_bipush hJ dX6_readE_39 (by decide) ?_
          refine j_iconst hJ dX6_readE_41 ?_
          refine j_iconst hJ dX6_readE_42 ?_
          refine j_lconst (x := 0) hJ dX6_readE_43 rfl ?_
          refine j_callVi hJ (c_X6_emit (l := l) (D := D) (cy := cy) (ad := ad) hin) rfl om_623 ⟨rfl, rfl, by show _ ≤ _; simp only [rm_gq_]; omega, by show _ ≤ _; simp only [rm_gq_]; omega⟩ [.int (Ii 34), .int (Ii 0), .int (Ii 0), .long (Ll 0)] mv_X6_58 hd_X6_emitv (kG_0 hc) rfl rfl rfl (Nat.le_of_ble_eq_true rfl) dX6_readE_44 ⟨c, 34, 0, 0, 0, rfl, hc, rk_34, rk_0, rk_0, lkm_0, hF⟩ (fun r7 M8 gr7 qM8 => ?_)
          have hF := qM8 gr7
          refine j_istore_n (lv' := [(2, .int (Ii r7)), (0, .ref (ad c)), (1, .int (Ii x1))]) hJ dX6_readE_47 rfl (by decide) rfl ?_
          refine j_aload_n hJ dX6_readE_48 rfl 1 rfl ?_
          refine j_ga hJ (kG_0 hc) fC_9_0 fl_X6_9 dX6_readE_49 ?_
          refine j_callVv hJ (c_X9_nextWord (l := l) (D := D) (cy := cy) (ad := ad) hin) rfl om_597 ⟨rfl, rfl, by show _ ≤ _; simp only [rm_gq_]; omega, by show _ ≤ _; simp only [rm_gq_]; omega⟩ [] mv_X6_69 hd_X9_nextWordv kC_1 rfl rfl rfl (Nat.le_of_ble_eq_true rfl) dX6_readE_52 ⟨rfl, hF⟩ (fun M10 qM10 => ?_)
          have hF := qM10
          refine j_aload_n hJ dX6_readE_55 rfl 1 rfl ?_
          refine j_callVz hJ hg1 rfl om_610 ⟨rfl, rfl, by show _ ≤ _; simp only [rm_gq_]; omega, by show _ ≤ _; simp only [rm_gq_]; omega⟩ [] mv_X6_128 hd_X6_readAndsv (kG_0 hc) rfl rfl rfl (Nat.le_of_ble_eq_true rfl) dX6_readE_56 ⟨c, rfl, hc, hF⟩ (fun r11 M12 gr11 qM12 => ?_)
          have hF := qM12 gr11
          refine j_if_ne hJ 64 (jz_ri gr11) dX6_readE_59 (by decide) (fun z13 => ?_) (fun z13 => ?_)
          · have hF := hF.1 z13
            refine j_aload_n hJ dX6_readE_64 rfl 1 rfl ?_
            refine j_bipush hJ dX6_readE_65 (by decide) ?_
            refine j_iconst hJ dX6_readE_67 ?_
            refine j_iconst hJ dX6_readE_68 ?_
            refine j_lconst (x := 0) hJ dX6_readE_69 rfl ?_
            refine j_callVi hJ (c_X6_emit (l := l) (D := D) (cy := cy) (ad := ad) hin) rfl om_623 ⟨rfl, rfl, by show _ ≤ _; simp only [rm_gq_]; omega, by show _ ≤ _; simp only [rm_gq_]; omega⟩ [.int (Ii 35), .int (Ii 0), .int (Ii 0), .long (Ll 0)] mv_X6_58 hd_X6_emitv (kG_0 hc) rfl rfl rfl (Nat.le_of_ble_eq_true rfl) dX6_readE_70 ⟨c, 35, 0, 0, 0, rfl, hc, rk_35, rk_0, rk_0, lkm_0, hF⟩ (fun r14 M15 gr14 qM15 => ?_)
            have hF := qM15 gr14
            refine j_pop hJ dX6_readE_73 rfl ?_
            refine j_aload_n hJ dX6_readE_74 rfl 1 rfl ?_
            refine j_gr (e := (c + 3)) hJ (kG_0 hc) fC_9_3 fl_X6_22 dX6_readE_75 rfl ?_
            refine j_iload_n hJ dX6_readE_78 rfl 0 rfl ?_
            refine j_aload_n hJ dX6_readE_79 rfl 1 rfl ?_
            refine j_gi hJ (kG_0 hc) fC_9_5 rfl fl_X6_72 dX6_readE_80 (fun v16 ev16 gv16 => ?_)
            have hF := hF v16 ev16 gv16
            refine j_iast hJ gr7 gv16 (kG_3 hc) hF.1 hF.2.1 dX6_readE_83 (fun M17 eM17 => ?_)
            have hF := hF.2.2 M17 eM17
            refine j_iinc (lv' := [(1, .int (Ii (x1 + 1))), (2, .int (Ii r7)), (0, .ref (ad c))]) (k := 2) hJ dX6_readE_84 rfl (by decide) rfl ?_
            have g18 := hF.1; have hF := hF.2
            refine j_goto hJ 11 dX6_readE_87 (by decide) ?_
            exact j_sub hJ [2, 0] rfl (ih (x1 + 1) _ g18 hF)
          · have hF := hF.2 z13
            refine j_iconst hJ dX6_readE_62 ?_
            exact j_zret hJ rfl (by decide) dX6_readE_63 hF
        · have hF := hF.2 z6
          refine j_iconst hJ dX6_readE_36 ?_
          exact j_zret hJ rfl (by decide) dX6_readE_37 hF
  intro x1 M gx1 hF
  obtain ⟨n, hF⟩ := hF
  exact H9 n x1 M gx1 hF
set_option maxHeartbeats 4000000 in
set_option maxRecDepth 100000 in
theorem s_X6_readE {l : Launch} {D : va_G} {cy : Nat → ClassId} {ad : Nat → Nat} {dp : Nat} (hin : jIn ad ksC.length) (hg0 : jCN l D vwCl (tyC cy) cy ad ftC ksC (XtC ad) yX6_readE (.code yX6_readE cX6_readE 3 (some .boolean) :: Om) (rm_gq_ dp) 3 (W_X6_readE dp ad)) (hg1 : jCN l D vwCl (tyC cy) cy ad ftC ksC (XtC ad) yX6_readAnds (.code yX6_readAnds cX6_readAnds 3 (some .boolean) :: Om) (rm_gq_ dp) 3 (W_X6_readAnds dp ad)) (hg2 : jCN l D vwCl (tyC cy) cy ad ftC ksC (XtC ad) yX6_readNots (.code yX6_readNots cX6_readNots 3 (some .boolean) :: Om) (rm_gq_ dp) 3 (W_X6_readNots dp ad)) (hg3 : jCN l D vwCl (tyC cy) cy ad ftC ksC (XtC ad) yX6_readComparison (.code yX6_readComparison cX6_readComparison 2 (some .boolean) :: Om) (rm_gq_ dp) 3 (W_X6_readComparison dp ad)) (hg4 : jCN l D vwCl (tyC cy) cy ad ftC ksC (XtC ad) yX6_readSums (.code yX6_readSums cX6_readSums 3 (some .boolean) :: Om) (rm_gq_ dp) 3 (W_X6_readSums dp ad)) (hg5 : jCN l D vwCl (tyC cy) cy ad ftC ksC (XtC ad) yX6_readProducts (.code yX6_readProducts cX6_readProducts 3 (some .boolean) :: Om) (rm_gq_ dp) 3 (W_X6_readProducts dp ad)) (hg6 : jCN l D vwCl (tyC cy) cy ad ftC ksC (XtC ad) yX6_readSigned (.code yX6_readSigned cX6_readSigned 3 (some .boolean) :: Om) (rm_gq_ dp) 3 (W_X6_readSigned dp ad)) (hg7 : jCN l D vwCl (tyC cy) cy ad ftC ksC (XtC ad) yX6_readP (.code yX6_readP cX6_readP 3 (some .boolean) :: Om) (rm_gq_ dp) 3 (W_X6_readP dp ad)) (hg8 : jCN l D vwCl (tyC cy) cy ad ftC ksC (XtC ad) yX6_readTail (.code yX6_readTail cX6_readTail 3 (some .boolean) :: Om) (rm_gq_ dp) 3 (W_X6_readTail dp ad)) (hg9 : jCN l D vwCl (tyC cy) cy ad ftC ksC (XtC ad) yX6_readAtom (.code yX6_readAtom cX6_readAtom 1 (some .boolean) :: Om) (rm_gq_ dp) 3 (W_X6_readAtom dp ad)) (hg10 : jCN l D vwCl (tyC cy) cy ad ftC ksC (XtC ad) yX6_readInner (.code yX6_readInner cX6_readInner 1 (some .boolean) :: Om) (rm_gq_ dp) 3 (W_X6_readInner dp ad)) (hg11 : jCN l D vwCl (tyC cy) cy ad ftC ksC (XtC ad) yX6_readFold (.code yX6_readFold cX6_readFold 5 (some .boolean) :: Om) (rm_gq_ dp) 3 (W_X6_readFold dp ad)) (hg12 : jCN l D vwCl (tyC cy) cy ad ftC ksC (XtC ad) yX6_readFoldBody (.code yX6_readFoldBody cX6_readFoldBody 4 (some .boolean) :: Om) (rm_gq_ dp) 3 (W_X6_readFoldBody dp ad)) (hg13 : jCN l D vwCl (tyC cy) cy ad ftC ksC (XtC ad) yX6_readSet (.code yX6_readSet cX6_readSet 3 (some .boolean) :: Om) (rm_gq_ dp) 3 (W_X6_readSet dp ad)) (hg14 : jCN l D vwCl (tyC cy) cy ad ftC ksC (XtC ad) yX6_readWhere (.code yX6_readWhere cX6_readWhere 2 (some .boolean) :: Om) (rm_gq_ dp) 3 (W_X6_readWhere dp ad)) : jCN l D vwCl (tyC cy) cy ad ftC ksC (XtC ad) yX6_readE (.code yX6_readE cX6_readE 3 (some .boolean) :: Om) (rm_gq_ (dp + 1)) 3 (W_X6_readE (dp + 1) ad) := by
  refine jCN_of (y := yX6_readE) (cc := cX6_readE) (nL := 3) (rk := 3) (rm := (rm_gq_ (dp + 1))) (own := RX6) (tyC_ok cy) hin (XtC_ok ad) Om_good (by decide) rfl ?_
  intro Q av M hF
  obtain ⟨c, rfl, hc, hF⟩ := hF
  refine ⟨Nat.le_of_ble_eq_true rfl, fun J hJ => ?_⟩
  show J 0 [(0, .ref (ad c))] [] M
  have hF : b_X6_readE c (gq_ c dp) Q  M := hF
  unfold b_X6_readE at hF
  refine j_aload_n hJ dX6_readE_0 rfl 0 rfl ?_
  refine j_callVz hJ hg1 rfl om_610 ⟨rfl, rfl, by show _ ≤ _; simp only [rm_gq_]; omega, by show _ ≤ _; simp only [rm_gq_]; omega⟩ [] mv_X6_128 hd_X6_readAndsv (kG_0 hc) rfl rfl rfl (Nat.le_of_ble_eq_true rfl) dX6_readE_1 ⟨c, rfl, hc, hF⟩ (fun r1 M2 gr1 qM2 => ?_)
  have hF := qM2 gr1
  refine j_if_ne hJ 9 (jz_ri gr1) dX6_readE_4 (by decide) (fun z3 => ?_) (fun z3 => ?_)
  · have hF := hF.1 z3
    refine j_iconst hJ dX6_readE_9 ?_
    refine j_istore_n (lv' := [(1, .int (Ii 0)), (0, .ref (ad c))]) hJ dX6_readE_10 rfl (by decide) rfl ?_
    exact j_sub hJ [1, 0] rfl (k_X6_readE_b11 hin hc hg0 hg1 hg2 hg3 hg4 hg5 hg6 hg7 hg8 hg9 hg10 hg11 hg12 hg13 hg14 hJ  0 _ rk_0 hF)
  · have hF := hF.2 z3
    refine j_iconst hJ dX6_readE_7 ?_
    exact j_zret hJ rfl (by decide) dX6_readE_8 hF
set_option maxHeartbeats 4000000 in
set_option maxRecDepth 100000 in
theorem k_X6_readAnds_b11 {l : Launch} {D : va_G} {cy : Nat → ClassId} {ad : Nat → Nat} {dp : Nat} {Q : Int → MM → Prop} {J : Nat → List (Nat × Value) → List Value → MM → Prop} (hin : jIn ad ksC.length) {c : Nat} (hc : isG c) (hg0 : jCN l D vwCl (tyC cy) cy ad ftC ksC (XtC ad) yX6_readE (.code yX6_readE cX6_readE 3 (some .boolean) :: Om) (rm_gq_ dp) 3 (W_X6_readE dp ad)) (hg1 : jCN l D vwCl (tyC cy) cy ad ftC ksC (XtC ad) yX6_readAnds (.code yX6_readAnds cX6_readAnds 3 (some .boolean) :: Om) (rm_gq_ dp) 3 (W_X6_readAnds dp ad)) (hg2 : jCN l D vwCl (tyC cy) cy ad ftC ksC (XtC ad) yX6_readNots (.code yX6_readNots cX6_readNots 3 (some .boolean) :: Om) (rm_gq_ dp) 3 (W_X6_readNots dp ad)) (hg3 : jCN l D vwCl (tyC cy) cy ad ftC ksC (XtC ad) yX6_readComparison (.code yX6_readComparison cX6_readComparison 2 (some .boolean) :: Om) (rm_gq_ dp) 3 (W_X6_readComparison dp ad)) (hg4 : jCN l D vwCl (tyC cy) cy ad ftC ksC (XtC ad) yX6_readSums (.code yX6_readSums cX6_readSums 3 (some .boolean) :: Om) (rm_gq_ dp) 3 (W_X6_readSums dp ad)) (hg5 : jCN l D vwCl (tyC cy) cy ad ftC ksC (XtC ad) yX6_readProducts (.code yX6_readProducts cX6_readProducts 3 (some .boolean) :: Om) (rm_gq_ dp) 3 (W_X6_readProducts dp ad)) (hg6 : jCN l D vwCl (tyC cy) cy ad ftC ksC (XtC ad) yX6_readSigned (.code yX6_readSigned cX6_readSigned 3 (some .boolean) :: Om) (rm_gq_ dp) 3 (W_X6_readSigned dp ad)) (hg7 : jCN l D vwCl (tyC cy) cy ad ftC ksC (XtC ad) yX6_readP (.code yX6_readP cX6_readP 3 (some .boolean) :: Om) (rm_gq_ dp) 3 (W_X6_readP dp ad)) (hg8 : jCN l D vwCl (tyC cy) cy ad ftC ksC (XtC ad) yX6_readTail (.code yX6_readTail cX6_readTail 3 (some .boolean) :: Om) (rm_gq_ dp) 3 (W_X6_readTail dp ad)) (hg9 : jCN l D vwCl (tyC cy) cy ad ftC ksC (XtC ad) yX6_readAtom (.code yX6_readAtom cX6_readAtom 1 (some .boolean) :: Om) (rm_gq_ dp) 3 (W_X6_readAtom dp ad)) (hg10 : jCN l D vwCl (tyC cy) cy ad ftC ksC (XtC ad) yX6_readInner (.code yX6_readInner cX6_readInner 1 (some .boolean) :: Om) (rm_gq_ dp) 3 (W_X6_readInner dp ad)) (hg11 : jCN l D vwCl (tyC cy) cy ad ftC ksC (XtC ad) yX6_readFold (.code yX6_readFold cX6_readFold 5 (some .boolean) :: Om) (rm_gq_ dp) 3 (W_X6_readFold dp ad)) (hg12 : jCN l D vwCl (tyC cy) cy ad ftC ksC (XtC ad) yX6_readFoldBody (.code yX6_readFoldBody cX6_readFoldBody 4 (some .boolean) :: Om) (rm_gq_ dp) 3 (W_X6_readFoldBody dp ad)) (hg13 : jCN l D vwCl (tyC cy) cy ad ftC ksC (XtC ad) yX6_readSet (.code yX6_readSet cX6_readSet 3 (some .boolean) :: Om) (rm_gq_ dp) 3 (W_X6_readSet dp ad)) (hg14 : jCN l D vwCl (tyC cy) cy ad ftC ksC (XtC ad) yX6_readWhere (.code yX6_readWhere cX6_readWhere 2 (some .boolean) :: Om) (rm_gq_ dp) 3 (W_X6_readWhere dp ad)) (hJ : jOk l D vwCl (tyC cy) cy ad ftC ksC (XtC ad) Om RX6 cX6_readAnds 3 3 (rm_gq_ (dp + 1)) Q J)  : ∀ (x1 : Int) (M : MM), ri_ x1 → w_X6_readAnds_b11 c (gq_ c dp) Q  x1 M → J 11 [(0, .ref (ad c)), (1, .int (Ii x1))] [] M := by
  have H9 : ∀ (n : Nat) (x1 : Int) (M : MM), ri_ x1 → jit (fun _ _ => False) (wb_X6_readAnds_b11 c (gq_ c dp) Q ) n x1 M → J 11 [(0, .ref (ad c)), (1, .int (Ii x1))] [] M := by
    intro n
    induction n with
    | zero => intro x1 M gx1 hF; exact False.elim hF
    | succ n ih =>
    intro x1 M gx1 hF
    have hF : wb_X6_readAnds_b11 c (gq_ c dp) Q  (jit (fun _ _ => False) (wb_X6_readAnds_b11 c (gq_ c dp) Q ) n) x1 M := hF
    unfold wb_X6_readAnds_b11 at hF
    refine j_iload_n hJ dX6_readAnds_11 rfl 1 rfl ?_
    refine j_bipush hJ dX6_readAnds_12 (by decide) ?_
    refine j_icmp_gt hJ 90 gx1 rk_120 dX6_readAnds_14 (by decide) (fun z1 => ?_) (fun z1 => ?_)
    · have hF := hF.1 z1
      refine j_iconst hJ dX6_readAnds_90 ?_
      exact j_zret hJ rfl (by decide) dX6_readAnds_91 hF
    · have hF := hF.2 z1
      refine j_aload_n hJ dX6_readAnds_17 rfl 0 rfl ?_
      refine j_ga hJ (kG_0 hc) fC_9_0 fl_X6_9 dX6_readAnds_18 ?_
      refine j_gi hJ kC_1 fC_12_9 rfl fl_X6_45 dX6_readAnds_21 (fun v2 ev2 gv2 => ?_)
      have hF := hF v2 ev2 gv2
      refine j_bipush hJ dX6_readAnds_24 (by decide) ?_
      refine j_icmp_ne hJ 90 gv2 rk_36 dX6_readAnds_26 (by decide) (fun z3 => ?_) (fun z3 => ?_)
      · have hF := hF.1 z3
        refine j_iconst hJ dX6_readAnds_90 ?_
        exact j_zret hJ rfl (by decide) dX6_readAnds_91 hF
      · have hF := hF.2 z3
        refine j_aload_n hJ dX6_readAnds_29 rfl 0 rfl ?_
        refine j_callVz hJ (c_X6_addNode (l := l) (D := D) (cy := cy) (ad := ad) hin) rfl om_618 ⟨rfl, rfl, by show _ ≤ _; simp only [rm_gq_]; omega, by show _ ≤ _; simp only [rm_gq_]; omega⟩ [] mv_X6_115 hd_X6_addNodev (kG_0 hc) rfl rfl rfl (Nat.le_of_ble_eq_true rfl) dX6_readAnds_30 ⟨c, rfl, hc, hF⟩ (fun r4 M5 gr4 qM5 => ?_)
        have hF := qM5 gr4
        refine j_if_ne hJ 38 (jz_ri gr4) dX6_readAnds_33 (by decide) (fun z6 => ?_) (fun z6 => ?_)
        · have hF := hF.1 z6
          refine j_aload_n hJ dX6_readAnds_38 rfl 0 rfl ?_
          refine j_bipush hJ dX6_readAnds_39 (by decide) ?_
          refine j_iconst hJ dX6_readAnds_41 ?_
          refine j_iconst hJ dX6_readAnds_42 ?_
          refine j_lconst (x := 0) hJ dX6_readAnds_43 rfl ?_
          refine j_callVi hJ (c_X6_emit (l := l) (D := D) (cy := cy) (ad := ad) hin) rfl om_623 ⟨rfl, rfl, by show _ ≤ _; simp only [rm_gq_]; omega, by show _ ≤ _; simp only [rm_gq_]; omega⟩ [.int (Ii 33), .int (Ii 0), .int (Ii 0), .long (Ll 0)] mv_X6_58 hd_X6_emitv (kG_0 hc) rfl rfl rfl (Nat.le_of_ble_eq_true rfl) dX6_readAnds_44 ⟨c, 33, 0, 0, 0, rfl, hc, rk_33, rk_0, rk_0, lkm_0, hF⟩ (fun r7 M8 gr7 qM8 => ?_)
          have hF := qM8 gr7
          refine j_istore_n (lv' := [(2, .int (Ii r7)), (0, .ref (ad c)), (1, .int (Ii x1))]) hJ dX6_readAnds_47 rfl (by decide) rfl ?_
          refine j_aload_n hJ dX6_readAnds_48 rfl 1 rfl ?_
          refine j_ga hJ (kG_0 hc) fC_9_0 fl_X6_9 dX6_readAnds_49 ?_
          refine j_callVv hJ (c_X9_nextWord (l := l) (D := D) (cy := cy) (ad := ad) hin) rfl om_597 ⟨rfl, rfl, by show _ ≤ _; simp only [rm_gq_]; omega, by show _ ≤ _; simp only [rm_gq_]; omega⟩ [] mv_X6_69 hd_X9_nextWordv kC_1 rfl rfl rfl (Nat.le_of_ble_eq_true rfl) dX6_readAnds_52 ⟨rfl, hF⟩ (fun M10 qM10 => ?_)
          have hF := qM10
          refine j_aload_n hJ dX6_readAnds_55 rfl 1 rfl ?_
          refine j_callVz hJ hg2 rfl om_628 ⟨rfl, rfl, by show _ ≤ _; simp only [rm_gq_]; omega, by show _ ≤ _; simp only [rm_gq_]; omega⟩ [] mv_X6_131 hd_X6_readNotsv (kG_0 hc) rfl rfl rfl (Nat.le_of_ble_eq_true rfl) dX6_readAnds_56 ⟨c, rfl, hc, hF⟩ (fun r11 M12 gr11 qM12 => ?_)
          have hF := qM12 gr11
          refine j_if_ne hJ 64 (jz_ri gr11) dX6_readAnds_59 (by decide) (fun z13 => ?_) (fun z13 => ?_)
          · have hF := hF.1 z13
            refine j_aload_n hJ dX6_readAnds_64 rfl 1 rfl ?_
            refine j_bipush hJ dX6_readAnds_65 (by decide) ?_
            refine j_iconst hJ dX6_readAnds_67 ?_
            refine j_iconst hJ dX6_readAnds_68 ?_
            refine j_lconst (x := 0) hJ dX6_readAnds_69 rfl ?_
            refine j_callVi hJ (c_X6_emit (l := l) (D := D) (cy := cy) (ad := ad) hin) rfl om_623 ⟨rfl, rfl, by show _ ≤ _; simp only [rm_gq_]; omega, by show _ ≤ _; simp only [rm_gq_]; omega⟩ [.int (Ii 35), .int (Ii 0), .int (Ii 0), .long (Ll 0)] mv_X6_58 hd_X6_emitv (kG_0 hc) rfl rfl rfl (Nat.le_of_ble_eq_true rfl) dX6_readAnds_70 ⟨c, 35, 0, 0, 0, rfl, hc, rk_35, rk_0, rk_0, lkm_0, hF⟩ (fun r14 M15 gr14 qM15 => ?_)
            have hF := qM15 gr14
            refine j_pop hJ dX6_readAnds_73 rfl ?_
            refine j_aload_n hJ dX6_readAnds_74 rfl 1 rfl ?_
            refine j_gr (e := (c + 3)) hJ (kG_0 hc) fC_9_3 fl_X6_22 dX6_readAnds_75 rfl ?_
            refine j_iload_n hJ dX6_readAnds_78 rfl 0 rfl ?_
            refine j_aload_n hJ dX6_readAnds_79 rfl 1 rfl ?_
            refine j_gi hJ (kG_0 hc) fC_9_5 rfl fl_X6_72 dX6_readAnds_80 (fun v16 ev16 gv16 => ?_)
            have hF := hF v16 ev16 gv16
            refine j_iast hJ gr7 gv16 (kG_3 hc) hF.1 hF.2.1 dX6_readAnds_83 (fun M17 eM17 => ?_)
            have hF := hF.2.2 M17 eM17
            refine j_iinc (lv' := [(1, .int (Ii (x1 + 1))), (2, .int (Ii r7)), (0, .ref (ad c))]) (k := 2) hJ dX6_readAnds_84 rfl (by decide) rfl ?_
            have g18 := hF.1; have hF := hF.2
            refine j_goto hJ 11 dX6_readAnds_87 (by decide) ?_
            exact j_sub hJ [2, 0] rfl (ih (x1 + 1) _ g18 hF)
          · have hF := hF.2 z13
            refine j_iconst hJ dX6_readAnds_62 ?_
            exact j_zret hJ rfl (by decide) dX6_readAnds_63 hF
        · have hF := hF.2 z6
          refine j_iconst hJ dX6_readAnds_36 ?_
          exact j_zret hJ rfl (by decide) dX6_readAnds_37 hF
  intro x1 M gx1 hF
  obtain ⟨n, hF⟩ := hF
  exact H9 n x1 M gx1 hF
set_option maxHeartbeats 4000000 in
set_option maxRecDepth 100000 in
theorem s_X6_readAnds {l : Launch} {D : va_G} {cy : Nat → ClassId} {ad : Nat → Nat} {dp : Nat} (hin : jIn ad ksC.length) (hg0 : jCN l D vwCl (tyC cy) cy ad ftC ksC (XtC ad) yX6_readE (.code yX6_readE cX6_readE 3 (some .boolean) :: Om) (rm_gq_ dp) 3 (W_X6_readE dp ad)) (hg1 : jCN l D vwCl (tyC cy) cy ad ftC ksC (XtC ad) yX6_readAnds (.code yX6_readAnds cX6_readAnds 3 (some .boolean) :: Om) (rm_gq_ dp) 3 (W_X6_readAnds dp ad)) (hg2 : jCN l D vwCl (tyC cy) cy ad ftC ksC (XtC ad) yX6_readNots (.code yX6_readNots cX6_readNots 3 (some .boolean) :: Om) (rm_gq_ dp) 3 (W_X6_readNots dp ad)) (hg3 : jCN l D vwCl (tyC cy) cy ad ftC ksC (XtC ad) yX6_readComparison (.code yX6_readComparison cX6_readComparison 2 (some .boolean) :: Om) (rm_gq_ dp) 3 (W_X6_readComparison dp ad)) (hg4 : jCN l D vwCl (tyC cy) cy ad ftC ksC (XtC ad) yX6_readSums (.code yX6_readSums cX6_readSums 3 (some .boolean) :: Om) (rm_gq_ dp) 3 (W_X6_readSums dp ad)) (hg5 : jCN l D vwCl (tyC cy) cy ad ftC ksC (XtC ad) yX6_readProducts (.code yX6_readProducts cX6_readProducts 3 (some .boolean) :: Om) (rm_gq_ dp) 3 (W_X6_readProducts dp ad)) (hg6 : jCN l D vwCl (tyC cy) cy ad ftC ksC (XtC ad) yX6_readSigned (.code yX6_readSigned cX6_readSigned 3 (some .boolean) :: Om) (rm_gq_ dp) 3 (W_X6_readSigned dp ad)) (hg7 : jCN l D vwCl (tyC cy) cy ad ftC ksC (XtC ad) yX6_readP (.code yX6_readP cX6_readP 3 (some .boolean) :: Om) (rm_gq_ dp) 3 (W_X6_readP dp ad)) (hg8 : jCN l D vwCl (tyC cy) cy ad ftC ksC (XtC ad) yX6_readTail (.code yX6_readTail cX6_readTail 3 (some .boolean) :: Om) (rm_gq_ dp) 3 (W_X6_readTail dp ad)) (hg9 : jCN l D vwCl (tyC cy) cy ad ftC ksC (XtC ad) yX6_readAtom (.code yX6_readAtom cX6_readAtom 1 (some .boolean) :: Om) (rm_gq_ dp) 3 (W_X6_readAtom dp ad)) (hg10 : jCN l D vwCl (tyC cy) cy ad ftC ksC (XtC ad) yX6_readInner (.code yX6_readInner cX6_readInner 1 (some .boolean) :: Om) (rm_gq_ dp) 3 (W_X6_readInner dp ad)) (hg11 : jCN l D vwCl (tyC cy) cy ad ftC ksC (XtC ad) yX6_readFold (.code yX6_readFold cX6_readFold 5 (some .boolean) :: Om) (rm_gq_ dp) 3 (W_X6_readFold dp ad)) (hg12 : jCN l D vwCl (tyC cy) cy ad ftC ksC (XtC ad) yX6_readFoldBody (.code yX6_readFoldBody cX6_readFoldBody 4 (some .boolean) :: Om) (rm_gq_ dp) 3 (W_X6_readFoldBody dp ad)) (hg13 : jCN l D vwCl (tyC cy) cy ad ftC ksC (XtC ad) yX6_readSet (.code yX6_readSet cX6_readSet 3 (some .boolean) :: Om) (rm_gq_ dp) 3 (W_X6_readSet dp ad)) (hg14 : jCN l D vwCl (tyC cy) cy ad ftC ksC (XtC ad) yX6_readWhere (.code yX6_readWhere cX6_readWhere 2 (some .boolean) :: Om) (rm_gq_ dp) 3 (W_X6_readWhere dp ad)) : jCN l D vwCl (tyC cy) cy ad ftC ksC (XtC ad) yX6_readAnds (.code yX6_readAnds cX6_readAnds 3 (some .boolean) :: Om) (rm_gq_ (dp + 1)) 3 (W_X6_readAnds (dp + 1) ad) := by
  refine jCN_of (y := yX6_readAnds) (cc := cX6_readAnds) (nL := 3) (rk := 3) (rm := (rm_gq_ (dp + 1))) (own := RX6) (tyC_ok cy) hin (XtC_ok ad) Om_good (by decide) rfl ?_
  intro Q av M hF
  obtain ⟨c, rfl, hc, hF⟩ := hF
  refine ⟨Nat.le_of_ble_eq_true rfl, fun J hJ => ?_⟩
  show J 0 [(0, .ref (ad c))] [] M
  have hF : b_X6_readAnds c (gq_ c dp) Q  M := hF
  unfold b_X6_readAnds at hF
  refine j_aload_n hJ dX6_readAnds_0 rfl 0 rfl ?_
  refine j_callVz hJ hg2 rfl om_628 ⟨rfl, rfl, by show _ ≤ _; simp only [rm_gq_]; omega, by show _ ≤ _; simp only [rm_gq_]; omega⟩ [] mv_X6_131 hd_X6_readNotsv (kG_0 hc) rfl rfl rfl (Nat.le_of_ble_eq_true rfl) dX6_readAnds_1 ⟨c, rfl, hc, hF⟩ (fun r1 M2 gr1 qM2 => ?_)
  have hF := qM2 gr1
  refine j_if_ne hJ 9 (jz_ri gr1) dX6_readAnds_4 (by decide) (fun z3 => ?_) (fun z3 => ?_)
  · have hF := hF.1 z3
    refine j_iconst hJ dX6_readAnds_9 ?_
    refine j_istore_n (lv' := [(1, .int (Ii 0)), (0, .ref (ad c))]) hJ dX6_readAnds_10 rfl (by decide) rfl ?_
    exact j_sub hJ [1, 0] rfl (k_X6_readAnds_b11 hin hc hg0 hg1 hg2 hg3 hg4 hg5 hg6 hg7 hg8 hg9 hg10 hg11 hg12 hg13 hg14 hJ  0 _ rk_0 hF)
  · have hF := hF.2 z3
    refine j_iconst hJ dX6_readAnds_7 ?_
    exact j_zret hJ rfl (by decide) dX6_readAnds_8 hF
set_option maxHeartbeats 4000000 in
set_option maxRecDepth 100000 in
theorem k_X6_readNots_b53 {l : Launch} {D : va_G} {cy : Nat → ClassId} {ad : Nat → Nat} {dp : Nat} {Q : Int → MM → Prop} {J : Nat → List (Nat × Value) → List Value → MM → Prop} (hin : jIn ad ksC.length) {c : Nat} (hc : isG c) (hg0 : jCN l D vwCl (tyC cy) cy ad ftC ksC (XtC ad) yX6_readE (.code yX6_readE cX6_readE 3 (some .boolean) :: Om) (rm_gq_ dp) 3 (W_X6_readE dp ad)) (hg1 : jCN l D vwCl (tyC cy) cy ad ftC ksC (XtC ad) yX6_readAnds (.code yX6_readAnds cX6_readAnds 3 (some .boolean) :: Om) (rm_gq_ dp) 3 (W_X6_readAnds dp ad)) (hg2 : jCN l D vwCl (tyC cy) cy ad ftC ksC (XtC ad) yX6_readNots (.code yX6_readNots cX6_readNots 3 (some .boolean) :: Om) (rm_gq_ dp) 3 (W_X6_readNots dp ad)) (hg3 : jCN l D vwCl (tyC cy) cy ad ftC ksC (XtC ad) yX6_readComparison (.code yX6_readComparison cX6_readComparison 2 (some .boolean) :: Om) (rm_gq_ dp) 3 (W_X6_readComparison dp ad)) (hg4 : jCN l D vwCl (tyC cy) cy ad ftC ksC (XtC ad) yX6_readSums (.code yX6_readSums cX6_readSums 3 (some .boolean) :: Om) (rm_gq_ dp) 3 (W_X6_readSums dp ad)) (hg5 : jCN l D vwCl (tyC cy) cy ad ftC ksC (XtC ad) yX6_readProducts (.code yX6_readProducts cX6_readProducts 3 (some .boolean) :: Om) (rm_gq_ dp) 3 (W_X6_readProducts dp ad)) (hg6 : jCN l D vwCl (tyC cy) cy ad ftC ksC (XtC ad) yX6_readSigned (.code yX6_readSigned cX6_readSigned 3 (some .boolean) :: Om) (rm_gq_ dp) 3 (W_X6_readSigned dp ad)) (hg7 : jCN l D vwCl (tyC cy) cy ad ftC ksC (XtC ad) yX6_readP (.code yX6_readP cX6_readP 3 (some .boolean) :: Om) (rm_gq_ dp) 3 (W_X6_readP dp ad)) (hg8 : jCN l D vwCl (tyC cy) cy ad ftC ksC (XtC ad) yX6_readTail (.code yX6_readTail cX6_readTail 3 (some .boolean) :: Om) (rm_gq_ dp) 3 (W_X6_readTail dp ad)) (hg9 : jCN l D vwCl (tyC cy) cy ad ftC ksC (XtC ad) yX6_readAtom (.code yX6_readAtom cX6_readAtom 1 (some .boolean) :: Om) (rm_gq_ dp) 3 (W_X6_readAtom dp ad)) (hg10 : jCN l D vwCl (tyC cy) cy ad ftC ksC (XtC ad) yX6_readInner (.code yX6_readInner cX6_readInner 1 (some .boolean) :: Om) (rm_gq_ dp) 3 (W_X6_readInner dp ad)) (hg11 : jCN l D vwCl (tyC cy) cy ad ftC ksC (XtC ad) yX6_readFold (.code yX6_readFold cX6_readFold 5 (some .boolean) :: Om) (rm_gq_ dp) 3 (W_X6_readFold dp ad)) (hg12 : jCN l D vwCl (tyC cy) cy ad ftC ksC (XtC ad) yX6_readFoldBody (.code yX6_readFoldBody cX6_readFoldBody 4 (some .boolean) :: Om) (rm_gq_ dp) 3 (W_X6_readFoldBody dp ad)) (hg13 : jCN l D vwCl (tyC cy) cy ad ftC ksC (XtC ad) yX6_readSet (.code yX6_readSet cX6_readSet 3 (some .boolean) :: Om) (rm_gq_ dp) 3 (W_X6_readSet dp ad)) (hg14 : jCN l D vwCl (tyC cy) cy ad ftC ksC (XtC ad) yX6_readWhere (.code yX6_readWhere cX6_readWhere 2 (some .boolean) :: Om) (rm_gq_ dp) 3 (W_X6_readWhere dp ad)) (hJ : jOk l D vwCl (tyC cy) cy ad ftC ksC (XtC ad) Om RX6 cX6_readNots 3 3 (rm_gq_ (dp + 1)) Q J)  : ∀ (x1 x2 : Int) (M : MM), ri_ x1 → ri_ x2 → w_X6_readNots_b53 c (gq_ c dp) Q  x1 x2 M → J 53 [(0, .ref (ad c)), (1, .int (Ii x1)), (2, .int (Ii x2))] [] M := by
  have H9 : ∀ (n : Nat) (x1 x2 : Int) (M : MM), ri_ x1 → ri_ x2 → jit (fun _ _ _ => False) (wb_X6_readNots_b53 c (gq_ c dp) Q ) n x1 x2 M → J 53 [(0, .ref (ad c)), (1, .int (Ii x1)), (2, .int (Ii x2))] [] M := by
    intro n
    induction n with
    | zero => intro x1 x2 M gx1 gx2 hF; exact False.elim hF
    | succ n ih =>
    intro x1 x2 M gx1 gx2 hF
    have hF : wb_X6_readNots_b53 c (gq_ c dp) Q  (jit (fun _ _ _ => False) (wb_X6_readNots_b53 c (gq_ c dp) Q ) n) x1 x2 M := hF
    unfold wb_X6_readNots_b53 at hF
    refine j_iload_n hJ dX6_readNots_53 rfl 2 rfl ?_
    refine j_iload_n hJ dX6_readNots_54 rfl 1 rfl ?_
    refine j_icmp_ge hJ 74 gx2 gx1 dX6_readNots_55 (by decide) (fun z1 => ?_) (fun z1 => ?_)
    · have hF := hF.1 z1
      refine j_iconst hJ dX6_readNots_74 ?_
      exact j_zret hJ rfl (by decide) dX6_readNots_75 hF
    · have hF := hF.2 z1
      refine j_aload_n hJ dX6_readNots_58 rfl 0 rfl ?_
      refine j_bipush hJ dX6_readNots_59 (by decide) ?_
      refine j_iconst hJ dX6_readNots_61 ?_
      refine j_iconst hJ dX6_readNots_62 ?_
      refine j_lconst (x := 0) hJ dX6_readNots_63 rfl ?_
      refine j_callVi hJ (c_X6_emit (l := l) (D := D) (cy := cy) (ad := ad) hin) rfl om_623 ⟨rfl, rfl, by show _ ≤ _; simp only [rm_gq_]; omega, by show _ ≤ _; simp only [rm_gq_]; omega⟩ [.int (Ii 13), .int (Ii 0), .int (Ii 0), .long (Ll 0)] mv_X6_58 hd_X6_emitv (kG_0 hc) rfl rfl rfl (Nat.le_of_ble_eq_true rfl) dX6_readNots_64 ⟨c, 13, 0, 0, 0, rfl, hc, rk_13, rk_0, rk_0, lkm_0, hF⟩ (fun r2 M3 gr2 qM3 => ?_)
      have hF := qM3 gr2
      refine j_pop hJ dX6_readNots_67 rfl ?_
      refine j_iinc (lv' := [(2, .int (Ii (x2 + 1))), (0, .ref (ad c)), (1, .int (Ii x1))]) (k := 2) hJ dX6_readNots_68 rfl (by decide) rfl ?_
      have g4 := hF.1; have hF := hF.2
      refine j_goto hJ 53 dX6_readNots_71 (by decide) ?_
      exact j_sub hJ [1, 2, 0] rfl (ih x1 (x2 + 1) _ gx1 g4 hF)
  intro x1 x2 M gx1 gx2 hF
  obtain ⟨n, hF⟩ := hF
  exact H9 n x1 x2 M gx1 gx2 hF
set_option maxHeartbeats 4000000 in
set_option maxRecDepth 100000 in
theorem k_X6_readNots_b42 {l : Launch} {D : va_G} {cy : Nat → ClassId} {ad : Nat → Nat} {dp : Nat} {Q : Int → MM → Prop} {J : Nat → List (Nat × Value) → List Value → MM → Prop} (hin : jIn ad ksC.length) {c : Nat} (hc : isG c) (hg0 : jCN l D vwCl (tyC cy) cy ad ftC ksC (XtC ad) yX6_readE (.code yX6_readE cX6_readE 3 (some .boolean) :: Om) (rm_gq_ dp) 3 (W_X6_readE dp ad)) (hg1 : jCN l D vwCl (tyC cy) cy ad ftC ksC (XtC ad) yX6_readAnds (.code yX6_readAnds cX6_readAnds 3 (some .boolean) :: Om) (rm_gq_ dp) 3 (W_X6_readAnds dp ad)) (hg2 : jCN l D vwCl (tyC cy) cy ad ftC ksC (XtC ad) yX6_readNots (.code yX6_readNots cX6_readNots 3 (some .boolean) :: Om) (rm_gq_ dp) 3 (W_X6_readNots dp ad)) (hg3 : jCN l D vwCl (tyC cy) cy ad ftC ksC (XtC ad) yX6_readComparison (.code yX6_readComparison cX6_readComparison 2 (some .boolean) :: Om) (rm_gq_ dp) 3 (W_X6_readComparison dp ad)) (hg4 : jCN l D vwCl (tyC cy) cy ad ftC ksC (XtC ad) yX6_readSums (.code yX6_readSums cX6_readSums 3 (some .boolean) :: Om) (rm_gq_ dp) 3 (W_X6_readSums dp ad)) (hg5 : jCN l D vwCl (tyC cy) cy ad ftC ksC (XtC ad) yX6_readProducts (.code yX6_readProducts cX6_readProducts 3 (some .boolean) :: Om) (rm_gq_ dp) 3 (W_X6_readProducts dp ad)) (hg6 : jCN l D vwCl (tyC cy) cy ad ftC ksC (XtC ad) yX6_readSigned (.code yX6_readSigned cX6_readSigned 3 (some .boolean) :: Om) (rm_gq_ dp) 3 (W_X6_readSigned dp ad)) (hg7 : jCN l D vwCl (tyC cy) cy ad ftC ksC (XtC ad) yX6_readP (.code yX6_readP cX6_readP 3 (some .boolean) :: Om) (rm_gq_ dp) 3 (W_X6_readP dp ad)) (hg8 : jCN l D vwCl (tyC cy) cy ad ftC ksC (XtC ad) yX6_readTail (.code yX6_readTail cX6_readTail 3 (some .boolean) :: Om) (rm_gq_ dp) 3 (W_X6_readTail dp ad)) (hg9 : jCN l D vwCl (tyC cy) cy ad ftC ksC (XtC ad) yX6_readAtom (.code yX6_readAtom cX6_readAtom 1 (some .boolean) :: Om) (rm_gq_ dp) 3 (W_X6_readAtom dp ad)) (hg10 : jCN l D vwCl (tyC cy) cy ad ftC ksC (XtC ad) yX6_readInner (.code yX6_readInner cX6_readInner 1 (some .boolean) :: Om) (rm_gq_ dp) 3 (W_X6_readInner dp ad)) (hg11 : jCN l D vwCl (tyC cy) cy ad ftC ksC (XtC ad) yX6_readFold (.code yX6_readFold cX6_readFold 5 (some .boolean) :: Om) (rm_gq_ dp) 3 (W_X6_readFold dp ad)) (hg12 : jCN l D vwCl (tyC cy) cy ad ftC ksC (XtC ad) yX6_readFoldBody (.code yX6_readFoldBody cX6_readFoldBody 4 (some .boolean) :: Om) (rm_gq_ dp) 3 (W_X6_readFoldBody dp ad)) (hg13 : jCN l D vwCl (tyC cy) cy ad ftC ksC (XtC ad) yX6_readSet (.code yX6_readSet cX6_readSet 3 (some .boolean) :: Om) (rm_gq_ dp) 3 (W_X6_readSet dp ad)) (hg14 : jCN l D vwCl (tyC cy) cy ad ftC ksC (XtC ad) yX6_readWhere (.code yX6_readWhere cX6_readWhere 2 (some .boolean) :: Om) (rm_gq_ dp) 3 (W_X6_readWhere dp ad)) (hJ : jOk l D vwCl (tyC cy) cy ad ftC ksC (XtC ad) Om RX6 cX6_readNots 3 3 (rm_gq_ (dp + 1)) Q J)  : ∀ (x1 : Int) (M : MM), ri_ x1 → w_X6_readNots_b42 c (gq_ c dp) Q  x1 M → J 42 [(0, .ref (ad c)), (1, .int (Ii x1))] [] M := by
  intro x1 M gx1 hF
  unfold w_X6_readNots_b42 at hF
  refine j_aload_n hJ dX6_readNots_42 rfl 0 rfl ?_
  refine j_callVz hJ hg3 rfl om_632 ⟨rfl, rfl, by show _ ≤ _; simp only [rm_gq_]; omega, by show _ ≤ _; simp only [rm_gq_]; omega⟩ [] mv_X6_134 hd_X6_readComparisonv (kG_0 hc) rfl rfl rfl (Nat.le_of_ble_eq_true rfl) dX6_readNots_43 ⟨c, rfl, hc, hF⟩ (fun r1 M2 gr1 qM2 => ?_)
  have hF := qM2 gr1
  refine j_if_ne hJ 51 (jz_ri gr1) dX6_readNots_46 (by decide) (fun z3 => ?_) (fun z3 => ?_)
  · have hF := hF.1 z3
    refine j_iconst hJ dX6_readNots_51 ?_
    refine j_istore_n (lv' := [(2, .int (Ii 0)), (0, .ref (ad c)), (1, .int (Ii x1))]) hJ dX6_readNots_52 rfl (by decide) rfl ?_
    exact j_sub hJ [1, 2, 0] rfl (k_X6_readNots_b53 hin hc hg0 hg1 hg2 hg3 hg4 hg5 hg6 hg7 hg8 hg9 hg10 hg11 hg12 hg13 hg14 hJ  x1 0 _ gx1 rk_0 hF)
  · have hF := hF.2 z3
    refine j_iconst hJ dX6_readNots_49 ?_
    exact j_zret hJ rfl (by decide) dX6_readNots_50 hF
set_option maxHeartbeats 4000000 in
set_option maxRecDepth 100000 in
theorem k_X6_readNots_b2 {l : Launch} {D : va_G} {cy : Nat → ClassId} {ad : Nat → Nat} {dp : Nat} {Q : Int → MM → Prop} {J : Nat → List (Nat × Value) → List Value → MM → Prop} (hin : jIn ad ksC.length) {c : Nat} (hc : isG c) (hg0 : jCN l D vwCl (tyC cy) cy ad ftC ksC (XtC ad) yX6_readE (.code yX6_readE cX6_readE 3 (some .boolean) :: Om) (rm_gq_ dp) 3 (W_X6_readE dp ad)) (hg1 : jCN l D vwCl (tyC cy) cy ad ftC ksC (XtC ad) yX6_readAnds (.code yX6_readAnds cX6_readAnds 3 (some .boolean) :: Om) (rm_gq_ dp) 3 (W_X6_readAnds dp ad)) (hg2 : jCN l D vwCl (tyC cy) cy ad ftC ksC (XtC ad) yX6_readNots (.code yX6_readNots cX6_readNots 3 (some .boolean) :: Om) (rm_gq_ dp) 3 (W_X6_readNots dp ad)) (hg3 : jCN l D vwCl (tyC cy) cy ad ftC ksC (XtC ad) yX6_readComparison (.code yX6_readComparison cX6_readComparison 2 (some .boolean) :: Om) (rm_gq_ dp) 3 (W_X6_readComparison dp ad)) (hg4 : jCN l D vwCl (tyC cy) cy ad ftC ksC (XtC ad) yX6_readSums (.code yX6_readSums cX6_readSums 3 (some .boolean) :: Om) (rm_gq_ dp) 3 (W_X6_readSums dp ad)) (hg5 : jCN l D vwCl (tyC cy) cy ad ftC ksC (XtC ad) yX6_readProducts (.code yX6_readProducts cX6_readProducts 3 (some .boolean) :: Om) (rm_gq_ dp) 3 (W_X6_readProducts dp ad)) (hg6 : jCN l D vwCl (tyC cy) cy ad ftC ksC (XtC ad) yX6_readSigned (.code yX6_readSigned cX6_readSigned 3 (some .boolean) :: Om) (rm_gq_ dp) 3 (W_X6_readSigned dp ad)) (hg7 : jCN l D vwCl (tyC cy) cy ad ftC ksC (XtC ad) yX6_readP (.code yX6_readP cX6_readP 3 (some .boolean) :: Om) (rm_gq_ dp) 3 (W_X6_readP dp ad)) (hg8 : jCN l D vwCl (tyC cy) cy ad ftC ksC (XtC ad) yX6_readTail (.code yX6_readTail cX6_readTail 3 (some .boolean) :: Om) (rm_gq_ dp) 3 (W_X6_readTail dp ad)) (hg9 : jCN l D vwCl (tyC cy) cy ad ftC ksC (XtC ad) yX6_readAtom (.code yX6_readAtom cX6_readAtom 1 (some .boolean) :: Om) (rm_gq_ dp) 3 (W_X6_readAtom dp ad)) (hg10 : jCN l D vwCl (tyC cy) cy ad ftC ksC (XtC ad) yX6_readInner (.code yX6_readInner cX6_readInner 1 (some .boolean) :: Om) (rm_gq_ dp) 3 (W_X6_readInner dp ad)) (hg11 : jCN l D vwCl (tyC cy) cy ad ftC ksC (XtC ad) yX6_readFold (.code yX6_readFold cX6_readFold 5 (some .boolean) :: Om) (rm_gq_ dp) 3 (W_X6_readFold dp ad)) (hg12 : jCN l D vwCl (tyC cy) cy ad ftC ksC (XtC ad) yX6_readFoldBody (.code yX6_readFoldBody cX6_readFoldBody 4 (some .boolean) :: Om) (rm_gq_ dp) 3 (W_X6_readFoldBody dp ad)) (hg13 : jCN l D vwCl (tyC cy) cy ad ftC ksC (XtC ad) yX6_readSet (.code yX6_readSet cX6_readSet 3 (some .boolean) :: Om) (rm_gq_ dp) 3 (W_X6_readSet dp ad)) (hg14 : jCN l D vwCl (tyC cy) cy ad ftC ksC (XtC ad) yX6_readWhere (.code yX6_readWhere cX6_readWhere 2 (some .boolean) :: Om) (rm_gq_ dp) 3 (W_X6_readWhere dp ad)) (hJ : jOk l D vwCl (tyC cy) cy ad ftC ksC (XtC ad) Om RX6 cX6_readNots 3 3 (rm_gq_ (dp + 1)) Q J)  : ∀ (x1 : Int) (M : MM), ri_ x1 → w_X6_readNots_b2 c (gq_ c dp) Q  x1 M → J 2 [(0, .ref (ad c)), (1, .int (Ii x1))] [] M := by
  have H9 : ∀ (n : Nat) (x1 : Int) (M : MM), ri_ x1 → jit (fun _ _ => False) (wb_X6_readNots_b2 c (gq_ c dp) Q ) n x1 M → J 2 [(0, .ref (ad c)), (1, .int (Ii x1))] [] M := by
    intro n
    induction n with
    | zero => intro x1 M gx1 hF; exact False.elim hF
    | succ n ih =>
    intro x1 M gx1 hF
    have hF : wb_X6_readNots_b2 c (gq_ c dp) Q  (jit (fun _ _ => False) (wb_X6_readNots_b2 c (gq_ c dp) Q ) n) x1 M := hF
    unfold wb_X6_readNots_b2 at hF
    refine j_aload_n hJ dX6_readNots_2 rfl 0 rfl ?_
    refine j_ga hJ (kG_0 hc) fC_9_0 fl_X6_9 dX6_readNots_3 ?_
    refine j_gi hJ kC_1 fC_12_9 rfl fl_X6_45 dX6_readNots_6 (fun v1 ev1 gv1 => ?_)
    have hF := hF v1 ev1 gv1
    refine j_bipush hJ dX6_readNots_9 (by decide) ?_
    refine j_icmp_ne hJ 42 gv1 rk_38 dX6_readNots_11 (by decide) (fun z2 => ?_) (fun z2 => ?_)
    · have hF := hF.1 z2
      exact j_sub hJ [0, 1] rfl (k_X6_readNots_b42 hin hc hg0 hg1 hg2 hg3 hg4 hg5 hg6 hg7 hg8 hg9 hg10 hg11 hg12 hg13 hg14 hJ  x1 _ gx1 hF)
    · have hF := hF.2 z2
      refine j_iload_n hJ dX6_readNots_14 rfl 1 rfl ?_
      refine j_bipush hJ dX6_readNots_15 (by decide) ?_
      refine j_icmp_gt hJ 42 gx1 rk_120 dX6_readNots_17 (by decide) (fun z3 => ?_) (fun z3 => ?_)
      · have hF := hF.1 z3
        exact j_sub hJ [0, 1] rfl (k_X6_readNots_b42 hin hc hg0 hg1 hg2 hg3 hg4 hg5 hg6 hg7 hg8 hg9 hg10 hg11 hg12 hg13 hg14 hJ  x1 _ gx1 hF)
      · have hF := hF.2 z3
        refine j_aload_n hJ dX6_readNots_20 rfl 0 rfl ?_
        refine j_callVz hJ (c_X6_addNode (l := l) (D := D) (cy := cy) (ad := ad) hin) rfl om_618 ⟨rfl, rfl, by show _ ≤ _; simp only [rm_gq_]; omega, by show _ ≤ _; simp only [rm_gq_]; omega⟩ [] mv_X6_115 hd_X6_addNodev (kG_0 hc) rfl rfl rfl (Nat.le_of_ble_eq_true rfl) dX6_readNots_21 ⟨c, rfl, hc, hF⟩ (fun r4 M5 gr4 qM5 => ?_)
        have hF := qM5 gr4
        refine j_if_ne hJ 29 (jz_ri gr4) dX6_readNots_24 (by decide) (fun z6 => ?_) (fun z6 => ?_)
        · have hF := hF.1 z6
          refine j_iinc (lv' := [(1, .int (Ii (x1 + 1))), (0, .ref (ad c))]) (k := 1) hJ dX6_readNots_29 rfl (by decide) rfl ?_
          have g7 := hF.1; have hF := hF.2
          refine j_aload_n hJ dX6_readNots_32 rfl 1 rfl ?_
          refine j_ga hJ (kG_0 hc) fC_9_0 fl_X6_9 dX6_readNots_33 ?_
          refine j_callVv hJ (c_X9_nextWord (l := l) (D := D) (cy := cy) (ad := ad) hin) rfl om_597 ⟨rfl, rfl, by show _ ≤ _; simp only [rm_gq_]; omega, by show _ ≤ _; simp only [rm_gq_]; omega⟩ [] mv_X6_69 hd_X9_nextWordv kC_1 rfl rfl rfl (Nat.le_of_ble_eq_true rfl) dX6_readNots_36 ⟨rfl, hF⟩ (fun M9 qM9 => ?_)
          have hF := qM9
          refine j_goto hJ 2 dX6_readNots_39 (by decide) ?_
          exact j_sub hJ [1, 0] rfl (ih (x1 + 1) _ g7 hF)
        · have hF := hF.2 z6
          refine j_iconst hJ dX6_readNots_27 ?_
          exact j_zret hJ rfl (by decide) dX6_readNots_28 hF
  intro x1 M gx1 hF
  obtain ⟨n, hF⟩ := hF
  exact H9 n x1 M gx1 hF
set_option maxHeartbeats 4000000 in
set_option maxRecDepth 100000 in
theorem s_X6_readNots {l : Launch} {D : va_G} {cy : Nat → ClassId} {ad : Nat → Nat} {dp : Nat} (hin : jIn ad ksC.length) (hg0 : jCN l D vwCl (tyC cy) cy ad ftC ksC (XtC ad) yX6_readE (.code yX6_readE cX6_readE 3 (some .boolean) :: Om) (rm_gq_ dp) 3 (W_X6_readE dp ad)) (hg1 : jCN l D vwCl (tyC cy) cy ad ftC ksC (XtC ad) yX6_readAnds (.code yX6_readAnds cX6_readAnds 3 (some .boolean) :: Om) (rm_gq_ dp) 3 (W_X6_readAnds dp ad)) (hg2 : jCN l D vwCl (tyC cy) cy ad ftC ksC (XtC ad) yX6_readNots (.code yX6_readNots cX6_readNots 3 (some .boolean) :: Om) (rm_gq_ dp) 3 (W_X6_readNots dp ad)) (hg3 : jCN l D vwCl (tyC cy) cy ad ftC ksC (XtC ad) yX6_readComparison (.code yX6_readComparison cX6_readComparison 2 (some .boolean) :: Om) (rm_gq_ dp) 3 (W_X6_readComparison dp ad)) (hg4 : jCN l D vwCl (tyC cy) cy ad ftC ksC (XtC ad) yX6_readSums (.code yX6_readSums cX6_readSums 3 (some .boolean) :: Om) (rm_gq_ dp) 3 (W_X6_readSums dp ad)) (hg5 : jCN l D vwCl (tyC cy) cy ad ftC ksC (XtC ad) yX6_readProducts (.code yX6_readProducts cX6_readProducts 3 (some .boolean) :: Om) (rm_gq_ dp) 3 (W_X6_readProducts dp ad)) (hg6 : jCN l D vwCl (tyC cy) cy ad ftC ksC (XtC ad) yX6_readSigned (.code yX6_readSigned cX6_readSigned 3 (some .boolean) :: Om) (rm_gq_ dp) 3 (W_X6_readSigned dp ad)) (hg7 : jCN l D vwCl (tyC cy) cy ad ftC ksC (XtC ad) yX6_readP (.code yX6_readP cX6_readP 3 (some .boolean) :: Om) (rm_gq_ dp) 3 (W_X6_readP dp ad)) (hg8 : jCN l D vwCl (tyC cy) cy ad ftC ksC (XtC ad) yX6_readTail (.code yX6_readTail cX6_readTail 3 (some .boolean) :: Om) (rm_gq_ dp) 3 (W_X6_readTail dp ad)) (hg9 : jCN l D vwCl (tyC cy) cy ad ftC ksC (XtC ad) yX6_readAtom (.code yX6_readAtom cX6_readAtom 1 (some .boolean) :: Om) (rm_gq_ dp) 3 (W_X6_readAtom dp ad)) (hg10 : jCN l D vwCl (tyC cy) cy ad ftC ksC (XtC ad) yX6_readInner (.code yX6_readInner cX6_readInner 1 (some .boolean) :: Om) (rm_gq_ dp) 3 (W_X6_readInner dp ad)) (hg11 : jCN l D vwCl (tyC cy) cy ad ftC ksC (XtC ad) yX6_readFold (.code yX6_readFold cX6_readFold 5 (some .boolean) :: Om) (rm_gq_ dp) 3 (W_X6_readFold dp ad)) (hg12 : jCN l D vwCl (tyC cy) cy ad ftC ksC (XtC ad) yX6_readFoldBody (.code yX6_readFoldBody cX6_readFoldBody 4 (some .boolean) :: Om) (rm_gq_ dp) 3 (W_X6_readFoldBody dp ad)) (hg13 : jCN l D vwCl (tyC cy) cy ad ftC ksC (XtC ad) yX6_readSet (.code yX6_readSet cX6_readSet 3 (some .boolean) :: Om) (rm_gq_ dp) 3 (W_X6_readSet dp ad)) (hg14 : jCN l D vwCl (tyC cy) cy ad ftC ksC (XtC ad) yX6_readWhere (.code yX6_readWhere cX6_readWhere 2 (some .boolean) :: Om) (rm_gq_ dp) 3 (W_X6_readWhere dp ad)) : jCN l D vwCl (tyC cy) cy ad ftC ksC (XtC ad) yX6_readNots (.code yX6_readNots cX6_readNots 3 (some .boolean) :: Om) (rm_gq_ (dp + 1)) 3 (W_X6_readNots (dp + 1) ad) := by
  refine jCN_of (y := yX6_readNots) (cc := cX6_readNots) (nL := 3) (rk := 3) (rm := (rm_gq_ (dp + 1))) (own := RX6) (tyC_ok cy) hin (XtC_ok ad) Om_good (by decide) rfl ?_
  intro Q av M hF
  obtain ⟨c, rfl, hc, hF⟩ := hF
  refine ⟨Nat.le_of_ble_eq_true rfl, fun J hJ => ?_⟩
  show J 0 [(0, .ref (ad c))] [] M
  have hF : b_X6_readNots c (gq_ c dp) Q  M := hF
  unfold b_X6_readNots at hF
  refine j_iconst hJ dX6_readNots_0 ?_
  refine j_istore_n (lv' := [(1, .int (Ii 0)), (0, .ref (ad c))]) hJ dX6_readNots_1 rfl (by decide) rfl ?_
  exact j_sub hJ [1, 0] rfl (k_X6_readNots_b2 hin hc hg0 hg1 hg2 hg3 hg4 hg5 hg6 hg7 hg8 hg9 hg10 hg11 hg12 hg13 hg14 hJ  0 _ rk_0 hF)
set_option maxHeartbeats 4000000 in
set_option maxRecDepth 100000 in
theorem s_X6_readComparison {l : Launch} {D : va_G} {cy : Nat → ClassId} {ad : Nat → Nat} {dp : Nat} (hin : jIn ad ksC.length) (hg0 : jCN l D vwCl (tyC cy) cy ad ftC ksC (XtC ad) yX6_readE (.code yX6_readE cX6_readE 3 (some .boolean) :: Om) (rm_gq_ dp) 3 (W_X6_readE dp ad)) (hg1 : jCN l D vwCl (tyC cy) cy ad ftC ksC (XtC ad) yX6_readAnds (.code yX6_readAnds cX6_readAnds 3 (some .boolean) :: Om) (rm_gq_ dp) 3 (W_X6_readAnds dp ad)) (hg2 : jCN l D vwCl (tyC cy) cy ad ftC ksC (XtC ad) yX6_readNots (.code yX6_readNots cX6_readNots 3 (some .boolean) :: Om) (rm_gq_ dp) 3 (W_X6_readNots dp ad)) (hg3 : jCN l D vwCl (tyC cy) cy ad ftC ksC (XtC ad) yX6_readComparison (.code yX6_readComparison cX6_readComparison 2 (some .boolean) :: Om) (rm_gq_ dp) 3 (W_X6_readComparison dp ad)) (hg4 : jCN l D vwCl (tyC cy) cy ad ftC ksC (XtC ad) yX6_readSums (.code yX6_readSums cX6_readSums 3 (some .boolean) :: Om) (rm_gq_ dp) 3 (W_X6_readSums dp ad)) (hg5 : jCN l D vwCl (tyC cy) cy ad ftC ksC (XtC ad) yX6_readProducts (.code yX6_readProducts cX6_readProducts 3 (some .boolean) :: Om) (rm_gq_ dp) 3 (W_X6_readProducts dp ad)) (hg6 : jCN l D vwCl (tyC cy) cy ad ftC ksC (XtC ad) yX6_readSigned (.code yX6_readSigned cX6_readSigned 3 (some .boolean) :: Om) (rm_gq_ dp) 3 (W_X6_readSigned dp ad)) (hg7 : jCN l D vwCl (tyC cy) cy ad ftC ksC (XtC ad) yX6_readP (.code yX6_readP cX6_readP 3 (some .boolean) :: Om) (rm_gq_ dp) 3 (W_X6_readP dp ad)) (hg8 : jCN l D vwCl (tyC cy) cy ad ftC ksC (XtC ad) yX6_readTail (.code yX6_readTail cX6_readTail 3 (some .boolean) :: Om) (rm_gq_ dp) 3 (W_X6_readTail dp ad)) (hg9 : jCN l D vwCl (tyC cy) cy ad ftC ksC (XtC ad) yX6_readAtom (.code yX6_readAtom cX6_readAtom 1 (some .boolean) :: Om) (rm_gq_ dp) 3 (W_X6_readAtom dp ad)) (hg10 : jCN l D vwCl (tyC cy) cy ad ftC ksC (XtC ad) yX6_readInner (.code yX6_readInner cX6_readInner 1 (some .boolean) :: Om) (rm_gq_ dp) 3 (W_X6_readInner dp ad)) (hg11 : jCN l D vwCl (tyC cy) cy ad ftC ksC (XtC ad) yX6_readFold (.code yX6_readFold cX6_readFold 5 (some .boolean) :: Om) (rm_gq_ dp) 3 (W_X6_readFold dp ad)) (hg12 : jCN l D vwCl (tyC cy) cy ad ftC ksC (XtC ad) yX6_readFoldBody (.code yX6_readFoldBody cX6_readFoldBody 4 (some .boolean) :: Om) (rm_gq_ dp) 3 (W_X6_readFoldBody dp ad)) (hg13 : jCN l D vwCl (tyC cy) cy ad ftC ksC (XtC ad) yX6_readSet (.code yX6_readSet cX6_readSet 3 (some .boolean) :: Om) (rm_gq_ dp) 3 (W_X6_readSet dp ad)) (hg14 : jCN l D vwCl (tyC cy) cy ad ftC ksC (XtC ad) yX6_readWhere (.code yX6_readWhere cX6_readWhere 2 (some .boolean) :: Om) (rm_gq_ dp) 3 (W_X6_readWhere dp ad)) : jCN l D vwCl (tyC cy) cy ad ftC ksC (XtC ad) yX6_readComparison (.code yX6_readComparison cX6_readComparison 2 (some .boolean) :: Om) (rm_gq_ (dp + 1)) 3 (W_X6_readComparison (dp + 1) ad) := by
  refine jCN_of (y := yX6_readComparison) (cc := cX6_readComparison) (nL := 2) (rk := 3) (rm := (rm_gq_ (dp + 1))) (own := RX6) (tyC_ok cy) hin (XtC_ok ad) Om_good (by decide) rfl ?_
  intro Q av M hF
  obtain ⟨c, rfl, hc, hF⟩ := hF
  refine ⟨Nat.le_of_ble_eq_true rfl, fun J hJ => ?_⟩
  show J 0 [(0, .ref (ad c))] [] M
  have hF : b_X6_readComparison c (gq_ c dp) Q  M := hF
  unfold b_X6_readComparison at hF
  refine j_aload_n hJ dX6_readComparison_0 rfl 0 rfl ?_
  refine j_callVz hJ hg4 rfl om_636 ⟨rfl, rfl, by show _ ≤ _; simp only [rm_gq_]; omega, by show _ ≤ _; simp only [rm_gq_]; omega⟩ [] mv_X6_137 hd_X6_readSumsv (kG_0 hc) rfl rfl rfl (Nat.le_of_ble_eq_true rfl) dX6_readComparison_1 ⟨c, rfl, hc, hF⟩ (fun r1 M2 gr1 qM2 => ?_)
  have hF := qM2 gr1
  refine j_if_ne hJ 9 (jz_ri gr1) dX6_readComparison_4 (by decide) (fun z3 => ?_) (fun z3 => ?_)
  · have hF := hF.1 z3
    refine j_aload_n hJ dX6_readComparison_9 rfl 0 rfl ?_
    refine j_ga hJ (kG_0 hc) fC_9_0 fl_X6_9 dX6_readComparison_10 ?_
    refine j_gi hJ kC_1 fC_12_9 rfl fl_X6_45 dX6_readComparison_13 (fun v4 ev4 gv4 => ?_)
    have hF := hF v4 ev4 gv4
    refine j_callSi hJ (c_X6_comparisonOf (l := l) (D := D) (cy := cy) (ad := ad) hin) rfl om_640 ⟨rfl, rfl, by show _ ≤ _; simp only [rm_gq_]; omega, by show _ ≤ _; simp only [rm_gq_]; omega⟩ [.int (Ii v4)] mv_X6_140 hd_X6_comparisonOf rfl (Nat.le_of_ble_eq_true rfl) dX6_readComparison_16 ⟨v4, rfl, gv4, hF⟩ (fun r5 M6 gr5 qM6 => ?_)
    have hF := qM6 gr5
    refine j_istore_n (lv' := [(1, .int (Ii r5)), (0, .ref (ad c))]) hJ dX6_readComparison_19 rfl (by decide) rfl ?_
    refine j_iload_n hJ dX6_readComparison_20 rfl 0 rfl ?_
    refine j_iconst hJ dX6_readComparison_21 ?_
    refine j_icmp_ne hJ 27 gr5 rk_m1 dX6_readComparison_22 (by decide) (fun z7 => ?_) (fun z7 => ?_)
    · have hF := hF.1 z7
      refine j_aload_n hJ dX6_readComparison_27 rfl 1 rfl ?_
      refine j_callVz hJ (c_X6_addNode (l := l) (D := D) (cy := cy) (ad := ad) hin) rfl om_618 ⟨rfl, rfl, by show _ ≤ _; simp only [rm_gq_]; omega, by show _ ≤ _; simp only [rm_gq_]; omega⟩ [] mv_X6_115 hd_X6_addNodev (kG_0 hc) rfl rfl rfl (Nat.le_of_ble_eq_true rfl) dX6_readComparison_28 ⟨c, rfl, hc, hF⟩ (fun r8 M9 gr8 qM9 => ?_)
      have hF := qM9 gr8
      refine j_if_ne hJ 36 (jz_ri gr8) dX6_readComparison_31 (by decide) (fun z10 => ?_) (fun z10 => ?_)
      · have hF := hF.1 z10
        refine j_aload_n hJ dX6_readComparison_36 rfl 1 rfl ?_
        refine j_ga hJ (kG_0 hc) fC_9_0 fl_X6_9 dX6_readComparison_37 ?_
        refine j_callVv hJ (c_X9_nextWord (l := l) (D := D) (cy := cy) (ad := ad) hin) rfl om_597 ⟨rfl, rfl, by show _ ≤ _; simp only [rm_gq_]; omega, by show _ ≤ _; simp only [rm_gq_]; omega⟩ [] mv_X6_69 hd_X9_nextWordv kC_1 rfl rfl rfl (Nat.le_of_ble_eq_true rfl) dX6_readComparison_40 ⟨rfl, hF⟩ (fun M12 qM12 => ?_)
        have hF := qM12
        refine j_iload_n hJ dX6_readComparison_43 rfl 0 rfl ?_
        refine j_bipush hJ dX6_readComparison_44 (by decide) ?_
        refine j_icmp_ne hJ 71 gr5 rk_14 dX6_readComparison_46 (by decide) (fun z13 => ?_) (fun z13 => ?_)
        · have hF := hF.1 z13
          refine j_aload_n hJ dX6_readComparison_71 rfl 1 rfl ?_
          refine j_callVz hJ hg4 rfl om_636 ⟨rfl, rfl, by show _ ≤ _; simp only [rm_gq_]; omega, by show _ ≤ _; simp only [rm_gq_]; omega⟩ [] mv_X6_137 hd_X6_readSumsv (kG_0 hc) rfl rfl rfl (Nat.le_of_ble_eq_true rfl) dX6_readComparison_72 ⟨c, rfl, hc, hF⟩ (fun r14 M15 gr14 qM15 => ?_)
          have hF := qM15 gr14
          refine j_if_ne hJ 80 (jz_ri gr14) dX6_readComparison_75 (by decide) (fun z16 => ?_) (fun z16 => ?_)
          · have hF := hF.1 z16
            refine j_aload_n hJ dX6_readComparison_80 rfl 1 rfl ?_
            refine j_iload_n hJ dX6_readComparison_81 rfl 0 rfl ?_
            refine j_iconst hJ dX6_readComparison_82 ?_
            refine j_iconst hJ dX6_readComparison_83 ?_
            refine j_lconst (x := 0) hJ dX6_readComparison_84 rfl ?_
            refine j_callVi hJ (c_X6_emit (l := l) (D := D) (cy := cy) (ad := ad) hin) rfl om_623 ⟨rfl, rfl, by show _ ≤ _; simp only [rm_gq_]; omega, by show _ ≤ _; simp only [rm_gq_]; omega⟩ [.int (Ii r5), .int (Ii 0), .int (Ii 0), .long (Ll 0)] mv_X6_58 hd_X6_emitv (kG_0 hc) rfl rfl rfl (Nat.le_of_ble_eq_true rfl) dX6_readComparison_85 ⟨c, r5, 0, 0, 0, rfl, hc, gr5, rk_0, rk_0, lkm_0, hF⟩ (fun r17 M18 gr17 qM18 => ?_)
            have hF := qM18 gr17
            refine j_pop hJ dX6_readComparison_88 rfl ?_
            refine j_iconst hJ dX6_readComparison_89 ?_
            exact j_zret hJ rfl (by decide) dX6_readComparison_90 hF
          · have hF := hF.2 z16
            refine j_iconst hJ dX6_readComparison_78 ?_
            exact j_zret hJ rfl (by decide) dX6_readComparison_79 hF
        · have hF := hF.2 z13
          refine j_aload_n hJ dX6_readComparison_49 rfl 1 rfl ?_
          refine j_bipush hJ dX6_readComparison_50 (by decide) ?_
          refine j_iconst hJ dX6_readComparison_52 ?_
          refine j_iconst hJ dX6_readComparison_53 ?_
          refine j_aload_n hJ dX6_readComparison_54 rfl 1 rfl ?_
          refine j_ga hJ (kG_0 hc) fC_9_0 fl_X6_9 dX6_readComparison_55 ?_
          refine j_gl hJ kC_1 fC_12_11 rfl fl_X6_118 dX6_readComparison_58 (fun v19 ev19 gv19 => ?_)
          have hF := hF v19 ev19 gv19
          refine j_callVi hJ (c_X6_emit (l := l) (D := D) (cy := cy) (ad := ad) hin) rfl om_623 ⟨rfl, rfl, by show _ ≤ _; simp only [rm_gq_]; omega, by show _ ≤ _; simp only [rm_gq_]; omega⟩ [.int (Ii 14), .int (Ii 0), .int (Ii 0), .long (Ll v19)] mv_X6_58 hd_X6_emitv (kG_0 hc) rfl rfl rfl (Nat.le_of_ble_eq_true rfl) dX6_readComparison_61 ⟨c, 14, 0, 0, v19, rfl, hc, rk_14, rk_0, rk_0, gv19, hF⟩ (fun r20 M21 gr20 qM21 => ?_)
          have hF := qM21 gr20
          refine j_pop hJ dX6_readComparison_64 rfl ?_
          refine j_aload_n hJ dX6_readComparison_65 rfl 1 rfl ?_
          refine j_iconst hJ dX6_readComparison_66 ?_
          refine j_callVz hJ (c_X6_pass (l := l) (D := D) (cy := cy) (ad := ad) hin) rfl om_647 ⟨rfl, rfl, by show _ ≤ _; simp only [rm_gq_]; omega, by show _ ≤ _; simp only [rm_gq_]; omega⟩ [.int (Ii 2)] mv_X6_122 hd_X6_passv (kG_0 hc) rfl rfl rfl (Nat.le_of_ble_eq_true rfl) dX6_readComparison_67 ⟨c, 2, rfl, hc, rk_2, hF⟩ (fun r22 M23 gr22 qM23 => ?_)
          have hF := qM23 gr22
          exact j_zret hJ rfl gr22 dX6_readComparison_70 hF
      · have hF := hF.2 z10
        refine j_iconst hJ dX6_readComparison_34 ?_
        exact j_zret hJ rfl (by decide) dX6_readComparison_35 hF
    · have hF := hF.2 z7
      refine j_iconst hJ dX6_readComparison_25 ?_
      exact j_zret hJ rfl (by decide) dX6_readComparison_26 hF
  · have hF := hF.2 z3
    refine j_iconst hJ dX6_readComparison_7 ?_
    exact j_zret hJ rfl (by decide) dX6_readComparison_8 hF
set_option maxHeartbeats 4000000 in
set_option maxRecDepth 100000 in
theorem k_X6_readSums_b60 {l : Launch} {D : va_G} {cy : Nat → ClassId} {ad : Nat → Nat} {dp : Nat} {Q : Int → MM → Prop} {J : Nat → List (Nat × Value) → List Value → MM → Prop} (hin : jIn ad ksC.length) {c : Nat} (hc : isG c) (hg0 : jCN l D vwCl (tyC cy) cy ad ftC ksC (XtC ad) yX6_readE (.code yX6_readE cX6_readE 3 (some .boolean) :: Om) (rm_gq_ dp) 3 (W_X6_readE dp ad)) (hg1 : jCN l D vwCl (tyC cy) cy ad ftC ksC (XtC ad) yX6_readAnds (.code yX6_readAnds cX6_readAnds 3 (some .boolean) :: Om) (rm_gq_ dp) 3 (W_X6_readAnds dp ad)) (hg2 : jCN l D vwCl (tyC cy) cy ad ftC ksC (XtC ad) yX6_readNots (.code yX6_readNots cX6_readNots 3 (some .boolean) :: Om) (rm_gq_ dp) 3 (W_X6_readNots dp ad)) (hg3 : jCN l D vwCl (tyC cy) cy ad ftC ksC (XtC ad) yX6_readComparison (.code yX6_readComparison cX6_readComparison 2 (some .boolean) :: Om) (rm_gq_ dp) 3 (W_X6_readComparison dp ad)) (hg4 : jCN l D vwCl (tyC cy) cy ad ftC ksC (XtC ad) yX6_readSums (.code yX6_readSums cX6_readSums 3 (some .boolean) :: Om) (rm_gq_ dp) 3 (W_X6_readSums dp ad)) (hg5 : jCN l D vwCl (tyC cy) cy ad ftC ksC (XtC ad) yX6_readProducts (.code yX6_readProducts cX6_readProducts 3 (some .boolean) :: Om) (rm_gq_ dp) 3 (W_X6_readProducts dp ad)) (hg6 : jCN l D vwCl (tyC cy) cy ad ftC ksC (XtC ad) yX6_readSigned (.code yX6_readSigned cX6_readSigned 3 (some .boolean) :: Om) (rm_gq_ dp) 3 (W_X6_readSigned dp ad)) (hg7 : jCN l D vwCl (tyC cy) cy ad ftC ksC (XtC ad) yX6_readP (.code yX6_readP cX6_readP 3 (some .boolean) :: Om) (rm_gq_ dp) 3 (W_X6_readP dp ad)) (hg8 : jCN l D vwCl (tyC cy) cy ad ftC ksC (XtC ad) yX6_readTail (.code yX6_readTail cX6_readTail 3 (some .boolean) :: Om) (rm_gq_ dp) 3 (W_X6_readTail dp ad)) (hg9 : jCN l D vwCl (tyC cy) cy ad ftC ksC (XtC ad) yX6_readAtom (.code yX6_readAtom cX6_readAtom 1 (some .boolean) :: Om) (rm_gq_ dp) 3 (W_X6_readAtom dp ad)) (hg10 : jCN l D vwCl (tyC cy) cy ad ftC ksC (XtC ad) yX6_readInner (.code yX6_readInner cX6_readInner 1 (some .boolean) :: Om) (rm_gq_ dp) 3 (W_X6_readInner dp ad)) (hg11 : jCN l D vwCl (tyC cy) cy ad ftC ksC (XtC ad) yX6_readFold (.code yX6_readFold cX6_readFold 5 (some .boolean) :: Om) (rm_gq_ dp) 3 (W_X6_readFold dp ad)) (hg12 : jCN l D vwCl (tyC cy) cy ad ftC ksC (XtC ad) yX6_readFoldBody (.code yX6_readFoldBody cX6_readFoldBody 4 (some .boolean) :: Om) (rm_gq_ dp) 3 (W_X6_readFoldBody dp ad)) (hg13 : jCN l D vwCl (tyC cy) cy ad ftC ksC (XtC ad) yX6_readSet (.code yX6_readSet cX6_readSet 3 (some .boolean) :: Om) (rm_gq_ dp) 3 (W_X6_readSet dp ad)) (hg14 : jCN l D vwCl (tyC cy) cy ad ftC ksC (XtC ad) yX6_readWhere (.code yX6_readWhere cX6_readWhere 2 (some .boolean) :: Om) (rm_gq_ dp) 3 (W_X6_readWhere dp ad)) (hJ : jOk l D vwCl (tyC cy) cy ad ftC ksC (XtC ad) Om RX6 cX6_readSums 3 3 (rm_gq_ (dp + 1)) Q J) {K11 : Int → MM → Prop} (hK11 : ∀ (x1 : Int) (M : MM), ri_ x1 → K11 x1 M → J 11 [(0, .ref (ad c)), (1, .int (Ii x1))] [] M) : ∀ (x1 s0 : Int) (M : MM), ri_ x1 → ri_ s0 → w_X6_readSums_b60 c (gq_ c dp) Q K11 x1 s0 M → J 60 [(0, .ref (ad c)), (1, .int (Ii x1))] [.int (Ii s0)] M := by
  intro x1 s0 M gx1 gs0 hF
  unfold w_X6_readSums_b60 at hF
  refine j_istore_n (lv' := [(2, .int (Ii s0)), (0, .ref (ad c)), (1, .int (Ii x1))]) hJ dX6_readSums_60 rfl (by decide) rfl ?_
  refine j_aload_n hJ dX6_readSums_61 rfl 1 rfl ?_
  refine j_callVz hJ (c_X6_addNode (l := l) (D := D) (cy := cy) (ad := ad) hin) rfl om_618 ⟨rfl, rfl, by show _ ≤ _; simp only [rm_gq_]; omega, by show _ ≤ _; simp only [rm_gq_]; omega⟩ [] mv_X6_115 hd_X6_addNodev (kG_0 hc) rfl rfl rfl (Nat.le_of_ble_eq_true rfl) dX6_readSums_62 ⟨c, rfl, hc, hF⟩ (fun r1 M2 gr1 qM2 => ?_)
  have hF := qM2 gr1
  refine j_if_ne hJ 70 (jz_ri gr1) dX6_readSums_65 (by decide) (fun z3 => ?_) (fun z3 => ?_)
  · have hF := hF.1 z3
    refine j_aload_n hJ dX6_readSums_70 rfl 1 rfl ?_
    refine j_ga hJ (kG_0 hc) fC_9_0 fl_X6_9 dX6_readSums_71 ?_
    refine j_callVv hJ (c_X9_nextWord (l := l) (D := D) (cy := cy) (ad := ad) hin) rfl om_597 ⟨rfl, rfl, by show _ ≤ _; simp only [rm_gq_]; omega, by show _ ≤ _; simp only [rm_gq_]; omega⟩ [] mv_X6_69 hd_X9_nextWordv kC_1 rfl rfl rfl (Nat.le_of_ble_eq_true rfl) dX6_readSums_74 ⟨rfl, hF⟩ (fun M5 qM5 => ?_)
    have hF := qM5
    refine j_aload_n hJ dX6_readSums_77 rfl 1 rfl ?_
    refine j_callVz hJ hg5 rfl om_651 ⟨rfl, rfl, by show _ ≤ _; simp only [rm_gq_]; omega, by show _ ≤ _; simp only [rm_gq_]; omega⟩ [] mv_X6_144 hd_X6_readProductsv (kG_0 hc) rfl rfl rfl (Nat.le_of_ble_eq_true rfl) dX6_readSums_78 ⟨c, rfl, hc, hF⟩ (fun r6 M7 gr6 qM7 => ?_)
    have hF := qM7 gr6
    refine j_if_ne hJ 86 (jz_ri gr6) dX6_readSums_81 (by decide) (fun z8 => ?_) (fun z8 => ?_)
    · have hF := hF.1 z8
      refine j_aload_n hJ dX6_readSums_86 rfl 1 rfl ?_
      refine j_iload_n hJ dX6_readSums_87 rfl 0 rfl ?_
      refine j_iconst hJ dX6_readSums_88 ?_
      refine j_iconst hJ dX6_readSums_89 ?_
      refine j_lconst (x := 0) hJ dX6_readSums_90 rfl ?_
      refine j_callVi hJ (c_X6_emit (l := l) (D := D) (cy := cy) (ad := ad) hin) rfl om_623 ⟨rfl, rfl, by show _ ≤ _; simp only [rm_gq_]; omega, by show _ ≤ _; simp only [rm_gq_]; omega⟩ [.int (Ii s0), .int (Ii 0), .int (Ii 0), .long (Ll 0)] mv_X6_58 hd_X6_emitv (kG_0 hc) rfl rfl rfl (Nat.le_of_ble_eq_true rfl) dX6_readSums_91 ⟨c, s0, 0, 0, 0, rfl, hc, gs0, rk_0, rk_0, lkm_0, hF⟩ (fun r9 M10 gr9 qM10 => ?_)
      have hF := qM10 gr9
      refine j_pop hJ dX6_readSums_94 rfl ?_
      refine j_iinc (lv' := [(1, .int (Ii (x1 + 1))), (2, .int (Ii s0)), (0, .ref (ad c))]) (k := 2) hJ dX6_readSums_95 rfl (by decide) rfl ?_
      have g11 := hF.1; have hF := hF.2
      refine j_goto hJ 11 dX6_readSums_98 (by decide) ?_
      exact j_sub hJ [2, 0] rfl (hK11 (x1 + 1) _ g11 hF)
    · have hF := hF.2 z8
      refine j_iconst hJ dX6_readSums_84 ?_
      exact j_zret hJ rfl (by decide) dX6_readSums_85 hF
  · have hF := hF.2 z3
    refine j_iconst hJ dX6_readSums_68 ?_
    exact j_zret hJ rfl (by decide) dX6_readSums_69 hF
set_option maxHeartbeats 4000000 in
set_option maxRecDepth 100000 in
theorem k_X6_readSums_b41 {l : Launch} {D : va_G} {cy : Nat → ClassId} {ad : Nat → Nat} {dp : Nat} {Q : Int → MM → Prop} {J : Nat → List (Nat × Value) → List Value → MM → Prop} (hin : jIn ad ksC.length) {c : Nat} (hc : isG c) (hg0 : jCN l D vwCl (tyC cy) cy ad ftC ksC (XtC ad) yX6_readE (.code yX6_readE cX6_readE 3 (some .boolean) :: Om) (rm_gq_ dp) 3 (W_X6_readE dp ad)) (hg1 : jCN l D vwCl (tyC cy) cy ad ftC ksC (XtC ad) yX6_readAnds (.code yX6_readAnds cX6_readAnds 3 (some .boolean) :: Om) (rm_gq_ dp) 3 (W_X6_readAnds dp ad)) (hg2 : jCN l D vwCl (tyC cy) cy ad ftC ksC (XtC ad) yX6_readNots (.code yX6_readNots cX6_readNots 3 (some .boolean) :: Om) (rm_gq_ dp) 3 (W_X6_readNots dp ad)) (hg3 : jCN l D vwCl (tyC cy) cy ad ftC ksC (XtC ad) yX6_readComparison (.code yX6_readComparison cX6_readComparison 2 (some .boolean) :: Om) (rm_gq_ dp) 3 (W_X6_readComparison dp ad)) (hg4 : jCN l D vwCl (tyC cy) cy ad ftC ksC (XtC ad) yX6_readSums (.code yX6_readSums cX6_readSums 3 (some .boolean) :: Om) (rm_gq_ dp) 3 (W_X6_readSums dp ad)) (hg5 : jCN l D vwCl (tyC cy) cy ad ftC ksC (XtC ad) yX6_readProducts (.code yX6_readProducts cX6_readProducts 3 (some .boolean) :: Om) (rm_gq_ dp) 3 (W_X6_readProducts dp ad)) (hg6 : jCN l D vwCl (tyC cy) cy ad ftC ksC (XtC ad) yX6_readSigned (.code yX6_readSigned cX6_readSigned 3 (some .boolean) :: Om) (rm_gq_ dp) 3 (W_X6_readSigned dp ad)) (hg7 : jCN l D vwCl (tyC cy) cy ad ftC ksC (XtC ad) yX6_readP (.code yX6_readP cX6_readP 3 (some .boolean) :: Om) (rm_gq_ dp) 3 (W_X6_readP dp ad)) (hg8 : jCN l D vwCl (tyC cy) cy ad ftC ksC (XtC ad) yX6_readTail (.code yX6_readTail cX6_readTail 3 (some .boolean) :: Om) (rm_gq_ dp) 3 (W_X6_readTail dp ad)) (hg9 : jCN l D vwCl (tyC cy) cy ad ftC ksC (XtC ad) yX6_readAtom (.code yX6_readAtom cX6_readAtom 1 (some .boolean) :: Om) (rm_gq_ dp) 3 (W_X6_readAtom dp ad)) (hg10 : jCN l D vwCl (tyC cy) cy ad ftC ksC (XtC ad) yX6_readInner (.code yX6_readInner cX6_readInner 1 (some .boolean) :: Om) (rm_gq_ dp) 3 (W_X6_readInner dp ad)) (hg11 : jCN l D vwCl (tyC cy) cy ad ftC ksC (XtC ad) yX6_readFold (.code yX6_readFold cX6_readFold 5 (some .boolean) :: Om) (rm_gq_ dp) 3 (W_X6_readFold dp ad)) (hg12 : jCN l D vwCl (tyC cy) cy ad ftC ksC (XtC ad) yX6_readFoldBody (.code yX6_readFoldBody cX6_readFoldBody 4 (some .boolean) :: Om) (rm_gq_ dp) 3 (W_X6_readFoldBody dp ad)) (hg13 : jCN l D vwCl (tyC cy) cy ad ftC ksC (XtC ad) yX6_readSet (.code yX6_readSet cX6_readSet 3 (some .boolean) :: Om) (rm_gq_ dp) 3 (W_X6_readSet dp ad)) (hg14 : jCN l D vwCl (tyC cy) cy ad ftC ksC (XtC ad) yX6_readWhere (.code yX6_readWhere cX6_readWhere 2 (some .boolean) :: Om) (rm_gq_ dp) 3 (W_X6_readWhere dp ad)) (hJ : jOk l D vwCl (tyC cy) cy ad ftC ksC (XtC ad) Om RX6 cX6_readSums 3 3 (rm_gq_ (dp + 1)) Q J) {K11 : Int → MM → Prop} (hK11 : ∀ (x1 : Int) (M : MM), ri_ x1 → K11 x1 M → J 11 [(0, .ref (ad c)), (1, .int (Ii x1))] [] M) : ∀ (x1 : Int) (M : MM), ri_ x1 → w_X6_readSums_b41 c (gq_ c dp) Q K11 x1 M → J 41 [(0, .ref (ad c)), (1, .int (Ii x1))] [] M := by
  intro x1 M gx1 hF
  unfold w_X6_readSums_b41 at hF
  refine j_aload_n hJ dX6_readSums_41 rfl 0 rfl ?_
  refine j_ga hJ (kG_0 hc) fC_9_0 fl_X6_9 dX6_readSums_42 ?_
  refine j_gi hJ kC_1 fC_12_9 rfl fl_X6_45 dX6_readSums_45 (fun v1 ev1 gv1 => ?_)
  have hF := hF v1 ev1 gv1
  refine j_bipush hJ dX6_readSums_48 (by decide) ?_
  refine j_icmp_ne hJ 58 gv1 rk_15 dX6_readSums_50 (by decide) (fun z2 => ?_) (fun z2 => ?_)
  · have hF := hF.1 z2
    refine j_bipush hJ dX6_readSums_58 (by decide) ?_
    exact j_sub hJ [0, 1] rfl (k_X6_readSums_b60 hin hc hg0 hg1 hg2 hg3 hg4 hg5 hg6 hg7 hg8 hg9 hg10 hg11 hg12 hg13 hg14 hJ hK11 x1 23 _ gx1 rk_23 hF)
  · have hF := hF.2 z2
    refine j_bipush hJ dX6_readSums_53 (by decide) ?_
    refine j_goto hJ 60 dX6_readSums_55 (by decide) ?_
    exact j_sub hJ [0, 1] rfl (k_X6_readSums_b60 hin hc hg0 hg1 hg2 hg3 hg4 hg5 hg6 hg7 hg8 hg9 hg10 hg11 hg12 hg13 hg14 hJ hK11 x1 22 _ gx1 rk_22 hF)
set_option maxHeartbeats 4000000 in
set_option maxRecDepth 100000 in
theorem k_X6_readSums_b11 {l : Launch} {D : va_G} {cy : Nat → ClassId} {ad : Nat → Nat} {dp : Nat} {Q : Int → MM → Prop} {J : Nat → List (Nat × Value) → List Value → MM → Prop} (hin : jIn ad ksC.length) {c : Nat} (hc : isG c) (hg0 : jCN l D vwCl (tyC cy) cy ad ftC ksC (XtC ad) yX6_readE (.code yX6_readE cX6_readE 3 (some .boolean) :: Om) (rm_gq_ dp) 3 (W_X6_readE dp ad)) (hg1 : jCN l D vwCl (tyC cy) cy ad ftC ksC (XtC ad) yX6_readAnds (.code yX6_readAnds cX6_readAnds 3 (some .boolean) :: Om) (rm_gq_ dp) 3 (W_X6_readAnds dp ad)) (hg2 : jCN l D vwCl (tyC cy) cy ad ftC ksC (XtC ad) yX6_readNots (.code yX6_readNots cX6_readNots 3 (some .boolean) :: Om) (rm_gq_ dp) 3 (W_X6_readNots dp ad)) (hg3 : jCN l D vwCl (tyC cy) cy ad ftC ksC (XtC ad) yX6_readComparison (.code yX6_readComparison cX6_readComparison 2 (some .boolean) :: Om) (rm_gq_ dp) 3 (W_X6_readComparison dp ad)) (hg4 : jCN l D vwCl (tyC cy) cy ad ftC ksC (XtC ad) yX6_readSums (.code yX6_readSums cX6_readSums 3 (some .boolean) :: Om) (rm_gq_ dp) 3 (W_X6_readSums dp ad)) (hg5 : jCN l D vwCl (tyC cy) cy ad ftC ksC (XtC ad) yX6_readProducts (.code yX6_readProducts cX6_readProducts 3 (some .boolean) :: Om) (rm_gq_ dp) 3 (W_X6_readProducts dp ad)) (hg6 : jCN l D vwCl (tyC cy) cy ad ftC ksC (XtC ad) yX6_readSigned (.code yX6_readSigned cX6_readSigned 3 (some .boolean) :: Om) (rm_gq_ dp) 3 (W_X6_readSigned dp ad)) (hg7 : jCN l D vwCl (tyC cy) cy ad ftC ksC (XtC ad) yX6_readP (.code yX6_readP cX6_readP 3 (some .boolean) :: Om) (rm_gq_ dp) 3 (W_X6_readP dp ad)) (hg8 : jCN l D vwCl (tyC cy) cy ad ftC ksC (XtC ad) yX6_readTail (.code yX6_readTail cX6_readTail 3 (some .boolean) :: Om) (rm_gq_ dp) 3 (W_X6_readTail dp ad)) (hg9 : jCN l D vwCl (tyC cy) cy ad ftC ksC (XtC ad) yX6_readAtom (.code yX6_readAtom cX6_readAtom 1 (some .boolean) :: Om) (rm_gq_ dp) 3 (W_X6_readAtom dp ad)) (hg10 : jCN l D vwCl (tyC cy) cy ad ftC ksC (XtC ad) yX6_readInner (.code yX6_readInner cX6_readInner 1 (some .boolean) :: Om) (rm_gq_ dp) 3 (W_X6_readInner dp ad)) (hg11 : jCN l D vwCl (tyC cy) cy ad ftC ksC (XtC ad) yX6_readFold (.code yX6_readFold cX6_readFold 5 (some .boolean) :: Om) (rm_gq_ dp) 3 (W_X6_readFold dp ad)) (hg12 : jCN l D vwCl (tyC cy) cy ad ftC ksC (XtC ad) yX6_readFoldBody (.code yX6_readFoldBody cX6_readFoldBody 4 (some .boolean) :: Om) (rm_gq_ dp) 3 (W_X6_readFoldBody dp ad)) (hg13 : jCN l D vwCl (tyC cy) cy ad ftC ksC (XtC ad) yX6_readSet (.code yX6_readSet cX6_readSet 3 (some .boolean) :: Om) (rm_gq_ dp) 3 (W_X6_readSet dp ad)) (hg14 : jCN l D vwCl (tyC cy) cy ad ftC ksC (XtC ad) yX6_readWhere (.code yX6_readWhere cX6_readWhere 2 (some .boolean) :: Om) (rm_gq_ dp) 3 (W_X6_readWhere dp ad)) (hJ : jOk l D vwCl (tyC cy) cy ad ftC ksC (XtC ad) Om RX6 cX6_readSums 3 3 (rm_gq_ (dp + 1)) Q J)  : ∀ (x1 : Int) (M : MM), ri_ x1 → w_X6_readSums_b11 c (gq_ c dp) Q  x1 M → J 11 [(0, .ref (ad c)), (1, .int (Ii x1))] [] M := by
  have H9 : ∀ (n : Nat) (x1 : Int) (M : MM), ri_ x1 → jit (fun _ _ => False) (wb_X6_readSums_b11 c (gq_ c dp) Q ) n x1 M → J 11 [(0, .ref (ad c)), (1, .int (Ii x1))] [] M := by
    intro n
    induction n with
    | zero => intro x1 M gx1 hF; exact False.elim hF
    | succ n ih =>
    intro x1 M gx1 hF
    have hF : wb_X6_readSums_b11 c (gq_ c dp) Q  (jit (fun _ _ => False) (wb_X6_readSums_b11 c (gq_ c dp) Q ) n) x1 M := hF
    unfold wb_X6_readSums_b11 at hF
    refine j_iload_n hJ dX6_readSums_11 rfl 1 rfl ?_
    refine j_bipush hJ dX6_readSums_12 (by decide) ?_
    refine j_icmp_gt hJ 101 gx1 rk_120 dX6_readSums_14 (by decide) (fun z1 => ?_) (fun z1 => ?_)
    · have hF := hF.1 z1
      refine j_iconst hJ dX6_readSums_101 ?_
      exact j_zret hJ rfl (by decide) dX6_readSums_102 hF
    · have hF := hF.2 z1
      refine j_aload_n hJ dX6_readSums_17 rfl 0 rfl ?_
      refine j_ga hJ (kG_0 hc) fC_9_0 fl_X6_9 dX6_readSums_18 ?_
      refine j_gi hJ kC_1 fC_12_9 rfl fl_X6_45 dX6_readSums_21 (fun v2 ev2 gv2 => ?_)
      have hF := hF v2 ev2 gv2
      refine j_bipush hJ dX6_readSums_24 (by decide) ?_
      refine j_icmp_eq hJ 41 gv2 rk_15 dX6_readSums_26 (by decide) (fun z3 => ?_) (fun z3 => ?_)
      · have hF := hF.1 z3
        exact j_sub hJ [0, 1] rfl (k_X6_readSums_b41 hin hc hg0 hg1 hg2 hg3 hg4 hg5 hg6 hg7 hg8 hg9 hg10 hg11 hg12 hg13 hg14 hJ ih x1 _ gx1 hF)
      · have hF := hF.2 z3
        refine j_aload_n hJ dX6_readSums_29 rfl 0 rfl ?_
        refine j_ga hJ (kG_0 hc) fC_9_0 fl_X6_9 dX6_readSums_30 ?_
        refine j_gi hJ kC_1 fC_12_9 rfl fl_X6_45 dX6_readSums_33 (fun v4 ev4 gv4 => ?_)
        have hF := hF v4 ev4 gv4
        refine j_bipush hJ dX6_readSums_36 (by decide) ?_
        refine j_icmp_ne hJ 101 gv4 rk_16 dX6_readSums_38 (by decide) (fun z5 => ?_) (fun z5 => ?_)
        · have hF := hF.1 z5
          refine j_iconst hJ dX6_readSums_101 ?_
          exact j_zret hJ rfl (by decide) dX6_readSums_102 hF
        · have hF := hF.2 z5
          exact j_sub hJ [0, 1] rfl (k_X6_readSums_b41 hin hc hg0 hg1 hg2 hg3 hg4 hg5 hg6 hg7 hg8 hg9 hg10 hg11 hg12 hg13 hg14 hJ ih x1 _ gx1 hF)
  intro x1 M gx1 hF
  obtain ⟨n, hF⟩ := hF
  exact H9 n x1 M gx1 hF
set_option maxHeartbeats 4000000 in
set_option maxRecDepth 100000 in
theorem s_X6_readSums {l : Launch} {D : va_G} {cy : Nat → ClassId} {ad : Nat → Nat} {dp : Nat} (hin : jIn ad ksC.length) (hg0 : jCN l D vwCl (tyC cy) cy ad ftC ksC (XtC ad) yX6_readE (.code yX6_readE cX6_readE 3 (some .boolean) :: Om) (rm_gq_ dp) 3 (W_X6_readE dp ad)) (hg1 : jCN l D vwCl (tyC cy) cy ad ftC ksC (XtC ad) yX6_readAnds (.code yX6_readAnds cX6_readAnds 3 (some .boolean) :: Om) (rm_gq_ dp) 3 (W_X6_readAnds dp ad)) (hg2 : jCN l D vwCl (tyC cy) cy ad ftC ksC (XtC ad) yX6_readNots (.code yX6_readNots cX6_readNots 3 (some .boolean) :: Om) (rm_gq_ dp) 3 (W_X6_readNots dp ad)) (hg3 : jCN l D vwCl (tyC cy) cy ad ftC ksC (XtC ad) yX6_readComparison (.code yX6_readComparison cX6_readComparison 2 (some .boolean) :: Om) (rm_gq_ dp) 3 (W_X6_readComparison dp ad)) (hg4 : jCN l D vwCl (tyC cy) cy ad ftC ksC (XtC ad) yX6_readSums (.code yX6_readSums cX6_readSums 3 (some .boolean) :: Om) (rm_gq_ dp) 3 (W_X6_readSums dp ad)) (hg5 : jCN l D vwCl (tyC cy) cy ad ftC ksC (XtC ad) yX6_readProducts (.code yX6_readProducts cX6_readProducts 3 (some .boolean) :: Om) (rm_gq_ dp) 3 (W_X6_readProducts dp ad)) (hg6 : jCN l D vwCl (tyC cy) cy ad ftC ksC (XtC ad) yX6_readSigned (.code yX6_readSigned cX6_readSigned 3 (some .boolean) :: Om) (rm_gq_ dp) 3 (W_X6_readSigned dp ad)) (hg7 : jCN l D vwCl (tyC cy) cy ad ftC ksC (XtC ad) yX6_readP (.code yX6_readP cX6_readP 3 (some .boolean) :: Om) (rm_gq_ dp) 3 (W_X6_readP dp ad)) (hg8 : jCN l D vwCl (tyC cy) cy ad ftC ksC (XtC ad) yX6_readTail (.code yX6_readTail cX6_readTail 3 (some .boolean) :: Om) (rm_gq_ dp) 3 (W_X6_readTail dp ad)) (hg9 : jCN l D vwCl (tyC cy) cy ad ftC ksC (XtC ad) yX6_readAtom (.code yX6_readAtom cX6_readAtom 1 (some .boolean) :: Om) (rm_gq_ dp) 3 (W_X6_readAtom dp ad)) (hg10 : jCN l D vwCl (tyC cy) cy ad ftC ksC (XtC ad) yX6_readInner (.code yX6_readInner cX6_readInner 1 (some .boolean) :: Om) (rm_gq_ dp) 3 (W_X6_readInner dp ad)) (hg11 : jCN l D vwCl (tyC cy) cy ad ftC ksC (XtC ad) yX6_readFold (.code yX6_readFold cX6_readFold 5 (some .boolean) :: Om) (rm_gq_ dp) 3 (W_X6_readFold dp ad)) (hg12 : jCN l D vwCl (tyC cy) cy ad ftC ksC (XtC ad) yX6_readFoldBody (.code yX6_readFoldBody cX6_readFoldBody 4 (some .boolean) :: Om) (rm_gq_ dp) 3 (W_X6_readFoldBody dp ad)) (hg13 : jCN l D vwCl (tyC cy) cy ad ftC ksC (XtC ad) yX6_readSet (.code yX6_readSet cX6_readSet 3 (some .boolean) :: Om) (rm_gq_ dp) 3 (W_X6_readSet dp ad)) (hg14 : jCN l D vwCl (tyC cy) cy ad ftC ksC (XtC ad) yX6_readWhere (.code yX6_readWhere cX6_readWhere 2 (some .boolean) :: Om) (rm_gq_ dp) 3 (W_X6_readWhere dp ad)) : jCN l D vwCl (tyC cy) cy ad ftC ksC (XtC ad) yX6_readSums (.code yX6_readSums cX6_readSums 3 (some .boolean) :: Om) (rm_gq_ (dp + 1)) 3 (W_X6_readSums (dp + 1) ad) := by
  refine jCN_of (y := yX6_readSums) (cc := cX6_readSums) (nL := 3) (rk := 3) (rm := (rm_gq_ (dp + 1))) (own := RX6) (tyC_ok cy) hin (XtC_ok ad) Om_good (by decide) rfl ?_
  intro Q av M hF
  obtain ⟨c, rfl, hc, hF⟩ := hF
  refine ⟨Nat.le_of_ble_eq_true rfl, fun J hJ => ?_⟩
  show J 0 [(0, .ref (ad c))] [] M
  have hF : b_X6_readSums c (gq_ c dp) Q  M := hF
  unfold b_X6_readSums at hF
  refine j_aload_n hJ dX6_readSums_0 rfl 0 rfl ?_
  refine j_callVz hJ hg5 rfl om_651 ⟨rfl, rfl, by show _ ≤ _; simp only [rm_gq_]; omega, by show _ ≤ _; simp only [rm_gq_]; omega⟩ [] mv_X6_144 hd_X6_readProductsv (kG_0 hc) rfl rfl rfl (Nat.le_of_ble_eq_true rfl) dX6_readSums_1 ⟨c, rfl, hc, hF⟩ (fun r1 M2 gr1 qM2 => ?_)
  have hF := qM2 gr1
  refine j_if_ne hJ 9 (jz_ri gr1) dX6_readSums_4 (by decide) (fun z3 => ?_) (fun z3 => ?_)
  · have hF := hF.1 z3
    refine j_iconst hJ dX6_readSums_9 ?_
    refine j_istore_n (lv' := [(1, .int (Ii 0)), (0, .ref (ad c))]) hJ dX6_readSums_10 rfl (by decide) rfl ?_
    exact j_sub hJ [1, 0] rfl (k_X6_readSums_b11 hin hc hg0 hg1 hg2 hg3 hg4 hg5 hg6 hg7 hg8 hg9 hg10 hg11 hg12 hg13 hg14 hJ  0 _ rk_0 hF)
  · have hF := hF.2 z3
    refine j_iconst hJ dX6_readSums_7 ?_
    exact j_zret hJ rfl (by decide) dX6_readSums_8 hF
set_option maxHeartbeats 4000000 in
set_option maxRecDepth 100000 in
theorem k_X6_readProducts_b11 {l : Launch} {D : va_G} {cy : Nat → ClassId} {ad : Nat → Nat} {dp : Nat} {Q : Int → MM → Prop} {J : Nat → List (Nat × Value) → List Value → MM → Prop} (hin : jIn ad ksC.length) {c : Nat} (hc : isG c) (hg0 : jCN l D vwCl (tyC cy) cy ad ftC ksC (XtC ad) yX6_readE (.code yX6_readE cX6_readE 3 (some .boolean) :: Om) (rm_gq_ dp) 3 (W_X6_readE dp ad)) (hg1 : jCN l D vwCl (tyC cy) cy ad ftC ksC (XtC ad) yX6_readAnds (.code yX6_readAnds cX6_readAnds 3 (some .boolean) :: Om) (rm_gq_ dp) 3 (W_X6_readAnds dp ad)) (hg2 : jCN l D vwCl (tyC cy) cy ad ftC ksC (XtC ad) yX6_readNots (.code yX6_readNots cX6_readNots 3 (some .boolean) :: Om) (rm_gq_ dp) 3 (W_X6_readNots dp ad)) (hg3 : jCN l D vwCl (tyC cy) cy ad ftC ksC (XtC ad) yX6_readComparison (.code yX6_readComparison cX6_readComparison 2 (some .boolean) :: Om) (rm_gq_ dp) 3 (W_X6_readComparison dp ad)) (hg4 : jCN l D vwCl (tyC cy) cy ad ftC ksC (XtC ad) yX6_readSums (.code yX6_readSums cX6_readSums 3 (some .boolean) :: Om) (rm_gq_ dp) 3 (W_X6_readSums dp ad)) (hg5 : jCN l D vwCl (tyC cy) cy ad ftC ksC (XtC ad) yX6_readProducts (.code yX6_readProducts cX6_readProducts 3 (some .boolean) :: Om) (rm_gq_ dp) 3 (W_X6_readProducts dp ad)) (hg6 : jCN l D vwCl (tyC cy) cy ad ftC ksC (XtC ad) yX6_readSigned (.code yX6_readSigned cX6_readSigned 3 (some .boolean) :: Om) (rm_gq_ dp) 3 (W_X6_readSigned dp ad)) (hg7 : jCN l D vwCl (tyC cy) cy ad ftC ksC (XtC ad) yX6_readP (.code yX6_readP cX6_readP 3 (some .boolean) :: Om) (rm_gq_ dp) 3 (W_X6_readP dp ad)) (hg8 : jCN l D vwCl (tyC cy) cy ad ftC ksC (XtC ad) yX6_readTail (.code yX6_readTail cX6_readTail 3 (some .boolean) :: Om) (rm_gq_ dp) 3 (W_X6_readTail dp ad)) (hg9 : jCN l D vwCl (tyC cy) cy ad ftC ksC (XtC ad) yX6_readAtom (.code yX6_readAtom cX6_readAtom 1 (some .boolean) :: Om) (rm_gq_ dp) 3 (W_X6_readAtom dp ad)) (hg10 : jCN l D vwCl (tyC cy) cy ad ftC ksC (XtC ad) yX6_readInner (.code yX6_readInner cX6_readInner 1 (some .boolean) :: Om) (rm_gq_ dp) 3 (W_X6_readInner dp ad)) (hg11 : jCN l D vwCl (tyC cy) cy ad ftC ksC (XtC ad) yX6_readFold (.code yX6_readFold cX6_readFold 5 (some .boolean) :: Om) (rm_gq_ dp) 3 (W_X6_readFold dp ad)) (hg12 : jCN l D vwCl (tyC cy) cy ad ftC ksC (XtC ad) yX6_readFoldBody (.code yX6_readFoldBody cX6_readFoldBody 4 (some .boolean) :: Om) (rm_gq_ dp) 3 (W_X6_readFoldBody dp ad)) (hg13 : jCN l D vwCl (tyC cy) cy ad ftC ksC (XtC ad) yX6_readSet (.code yX6_readSet cX6_readSet 3 (some .boolean) :: Om) (rm_gq_ dp) 3 (W_X6_readSet dp ad)) (hg14 : jCN l D vwCl (tyC cy) cy ad ftC ksC (XtC ad) yX6_readWhere (.code yX6_readWhere cX6_readWhere 2 (some .boolean) :: Om) (rm_gq_ dp) 3 (W_X6_readWhere dp ad)) (hJ : jOk l D vwCl (tyC cy) cy ad ftC ksC (XtC ad) Om RX6 cX6_readProducts 3 3 (rm_gq_ (dp + 1)) Q J)  : ∀ (x1 : Int) (M : MM), ri_ x1 → w_X6_readProducts_b11 c (gq_ c dp) Q  x1 M → J 11 [(0, .ref (ad c)), (1, .int (Ii x1))] [] M := by
  have H9 : ∀ (n : Nat) (x1 : Int) (M : MM), ri_ x1 → jit (fun _ _ => False) (wb_X6_readProducts_b11 c (gq_ c dp) Q ) n x1 M → J 11 [(0, .ref (ad c)), (1, .int (Ii x1))] [] M := by
    intro n
    induction n with
    | zero => intro x1 M gx1 hF; exact False.elim hF
    | succ n ih =>
    intro x1 M gx1 hF
    have hF : wb_X6_readProducts_b11 c (gq_ c dp) Q  (jit (fun _ _ => False) (wb_X6_readProducts_b11 c (gq_ c dp) Q ) n) x1 M := hF
    unfold wb_X6_readProducts_b11 at hF
    refine j_iload_n hJ dX6_readProducts_11 rfl 1 rfl ?_
    refine j_bipush hJ dX6_readProducts_12 (by decide) ?_
    refine j_icmp_gt hJ 95 gx1 rk_120 dX6_readProducts_14 (by decide) (fun z1 => ?_) (fun z1 => ?_)
    · have hF := hF.1 z1
      refine j_iconst hJ dX6_readProducts_95 ?_
      exact j_zret hJ rfl (by decide) dX6_readProducts_96 hF
    · have hF := hF.2 z1
      refine j_aload_n hJ dX6_readProducts_17 rfl 0 rfl ?_
      refine j_ga hJ (kG_0 hc) fC_9_0 fl_X6_9 dX6_readProducts_18 ?_
      refine j_gi hJ kC_1 fC_12_9 rfl fl_X6_45 dX6_readProducts_21 (fun v2 ev2 gv2 => ?_)
      have hF := hF v2 ev2 gv2
      refine j_bipush hJ dX6_readProducts_24 (by decide) ?_
      refine j_icmp_lt hJ 95 gv2 rk_17 dX6_readProducts_26 (by decide) (fun z3 => ?_) (fun z3 => ?_)
      · have hF := hF.1 z3
        refine j_iconst hJ dX6_readProducts_95 ?_
        exact j_zret hJ rfl (by decide) dX6_readProducts_96 hF
      · have hF := hF.2 z3
        refine j_aload_n hJ dX6_readProducts_29 rfl 0 rfl ?_
        refine j_ga hJ (kG_0 hc) fC_9_0 fl_X6_9 dX6_readProducts_30 ?_
        refine j_gi hJ kC_1 fC_12_9 rfl fl_X6_45 dX6_readProducts_33 (fun v4 ev4 gv4 => ?_)
        have hF := hF v4 ev4 gv4
        refine j_bipush hJ dX6_readProducts_36 (by decide) ?_
        refine j_icmp_gt hJ 95 gv4 rk_19 dX6_readProducts_38 (by decide) (fun z5 => ?_) (fun z5 => ?_)
        · have hF := hF.1 z5
          refine j_iconst hJ dX6_readProducts_95 ?_
          exact j_zret hJ rfl (by decide) dX6_readProducts_96 hF
        · have hF := hF.2 z5
          refine j_bipush hJ dX6_readProducts_41 (by decide) ?_
          refine j_aload_n hJ dX6_readProducts_43 rfl 0 rfl ?_
          refine j_ga hJ (kG_0 hc) fC_9_0 fl_X6_9 dX6_readProducts_44 ?_
          refine j_gi hJ kC_1 fC_12_9 rfl fl_X6_45 dX6_readProducts_47 (fun v6 ev6 gv6 => ?_)
          have hF := hF v6 ev6 gv6
          refine j_iadd hJ dX6_readProducts_50 ?_
          have g7 := hF.1; have hF := hF.2
          refine j_bipush hJ dX6_readProducts_51 (by decide) ?_
          refine j_isub hJ dX6_readProducts_53 ?_
          have g8 := hF.1; have hF := hF.2
          refine j_istore_n (lv' := [(2, .int (Ii ((24 + v6) - 17))), (0, .ref (ad c)), (1, .int (Ii x1))]) hJ dX6_readProducts_54 rfl (by decide) rfl ?_
          refine j_aload_n hJ dX6_readProducts_55 rfl 1 rfl ?_
          refine j_callVz hJ (c_X6_addNode (l := l) (D := D) (cy := cy) (ad := ad) hin) rfl om_618 ⟨rfl, rfl, by show _ ≤ _; simp only [rm_gq_]; omega, by show _ ≤ _; simp only [rm_gq_]; omega⟩ [] mv_X6_115 hd_X6_addNodev (kG_0 hc) rfl rfl rfl (Nat.le_of_ble_eq_true rfl) dX6_readProducts_56 ⟨c, rfl, hc, hF⟩ (fun r9 M10 gr9 qM10 => ?_)
          have hF := qM10 gr9
          refine j_if_ne hJ 64 (jz_ri gr9) dX6_readProducts_59 (by decide) (fun z11 => ?_) (fun z11 => ?_)
          · have hF := hF.1 z11
            refine j_aload_n hJ dX6_readProducts_64 rfl 1 rfl ?_
            refine j_ga hJ (kG_0 hc) fC_9_0 fl_X6_9 dX6_readProducts_65 ?_
            refine j_callVv hJ (c_X9_nextWord (l := l) (D := D) (cy := cy) (ad := ad) hin) rfl om_597 ⟨rfl, rfl, by show _ ≤ _; simp only [rm_gq_]; omega, by show _ ≤ _; simp only [rm_gq_]; omega⟩ [] mv_X6_69 hd_X9_nextWordv kC_1 rfl rfl rfl (Nat.le_of_ble_eq_true rfl) dX6_readProducts_68 ⟨rfl, hF⟩ (fun M13 qM13 => ?_)
            have hF := qM13
            refine j_aload_n hJ dX6_readProducts_71 rfl 1 rfl ?_
            refine j_callVz hJ hg6 rfl om_655 ⟨rfl, rfl, by show _ ≤ _; simp only [rm_gq_]; omega, by show _ ≤ _; simp only [rm_gq_]; omega⟩ [] mv_X6_147 hd_X6_readSignedv (kG_0 hc) rfl rfl rfl (Nat.le_of_ble_eq_true rfl) dX6_readProducts_72 ⟨c, rfl, hc, hF⟩ (fun r14 M15 gr14 qM15 => ?_)
            have hF := qM15 gr14
            refine j_if_ne hJ 80 (jz_ri gr14) dX6_readProducts_75 (by decide) (fun z16 => ?_) (fun z16 => ?_)
            · have hF := hF.1 z16
              refine j_aload_n hJ dX6_readProducts_80 rfl 1 rfl ?_
              refine j_iload_n hJ dX6_readProducts_81 rfl 0 rfl ?_
              refine j_iconst hJ dX6_readProducts_82 ?_
              refine j_iconst hJ dX6_readProducts_83 ?_
              refine j_lconst (x := 0) hJ dX6_readProducts_84 rfl ?_
              refine j_callVi hJ (c_X6_emit (l := l) (D := D) (cy := cy) (ad := ad) hin) rfl om_623 ⟨rfl, rfl, by show _ ≤ _; simp only [rm_gq_]; omega, by show _ ≤ _; simp only [rm_gq_]; omega⟩ [.int (Ii ((24 + v6) - 17)), .int (Ii 0), .int (Ii 0), .long (Ll 0)] mv_X6_58 hd_X6_emitv (kG_0 hc) rfl rfl rfl (Nat.le_of_ble_eq_true rfl) dX6_readProducts_85 ⟨c, ((24 + v6) - 17), 0, 0, 0, rfl, hc, g8, rk_0, rk_0, lkm_0, hF⟩ (fun r17 M18 gr17 qM18 => ?_)
              have hF := qM18 gr17
              refine j_pop hJ dX6_readProducts_88 rfl ?_
              refine j_iinc (lv' := [(1, .int (Ii (x1 + 1))), (2, .int (Ii ((24 + v6) - 17))), (0, .ref (ad c))]) (k := 2) hJ dX6_readProducts_89 rfl (by decide) rfl ?_
              have g19 := hF.1; have hF := hF.2
              refine j_goto hJ 11 dX6_readProducts_92 (by decide) ?_
              exact j_sub hJ [2, 0] rfl (ih (x1 + 1) _ g19 hF)
            · have hF := hF.2 z16
              refine j_iconst hJ dX6_readProducts_78 ?_
              exact j_zret hJ rfl (by decide) dX6_readProducts_79 hF
          · have hF := hF.2 z11
            refine j_iconst hJ dX6_readProducts_62 ?_
            exact j_zret hJ rfl (by decide) dX6_readProducts_63 hF
  intro x1 M gx1 hF
  obtain ⟨n, hF⟩ := hF
  exact H9 n x1 M gx1 hF
set_option maxHeartbeats 4000000 in
set_option maxRecDepth 100000 in
theorem s_X6_readProducts {l : Launch} {D : va_G} {cy : Nat → ClassId} {ad : Nat → Nat} {dp : Nat} (hin : jIn ad ksC.length) (hg0 : jCN l D vwCl (tyC cy) cy ad ftC ksC (XtC ad) yX6_readE (.code yX6_readE cX6_readE 3 (some .boolean) :: Om) (rm_gq_ dp) 3 (W_X6_readE dp ad)) (hg1 : jCN l D vwCl (tyC cy) cy ad ftC ksC (XtC ad) yX6_readAnds (.code yX6_readAnds cX6_readAnds 3 (some .boolean) :: Om) (rm_gq_ dp) 3 (W_X6_readAnds dp ad)) (hg2 : jCN l D vwCl (tyC cy) cy ad ftC ksC (XtC ad) yX6_readNots (.code yX6_readNots cX6_readNots 3 (some .boolean) :: Om) (rm_gq_ dp) 3 (W_X6_readNots dp ad)) (hg3 : jCN l D vwCl (tyC cy) cy ad ftC ksC (XtC ad) yX6_readComparison (.code yX6_readComparison cX6_readComparison 2 (some .boolean) :: Om) (rm_gq_ dp) 3 (W_X6_readComparison dp ad)) (hg4 : jCN l D vwCl (tyC cy) cy ad ftC ksC (XtC ad) yX6_readSums (.code yX6_readSums cX6_readSums 3 (some .boolean) :: Om) (rm_gq_ dp) 3 (W_X6_readSums dp ad)) (hg5 : jCN l D vwCl (tyC cy) cy ad ftC ksC (XtC ad) yX6_readProducts (.code yX6_readProducts cX6_readProducts 3 (some .boolean) :: Om) (rm_gq_ dp) 3 (W_X6_readProducts dp ad)) (hg6 : jCN l D vwCl (tyC cy) cy ad ftC ksC (XtC ad) yX6_readSigned (.code yX6_readSigned cX6_readSigned 3 (some .boolean) :: Om) (rm_gq_ dp) 3 (W_X6_readSigned dp ad)) (hg7 : jCN l D vwCl (tyC cy) cy ad ftC ksC (XtC ad) yX6_readP (.code yX6_readP cX6_readP 3 (some .boolean) :: Om) (rm_gq_ dp) 3 (W_X6_readP dp ad)) (hg8 : jCN l D vwCl (tyC cy) cy ad ftC ksC (XtC ad) yX6_readTail (.code yX6_readTail cX6_readTail 3 (some .boolean) :: Om) (rm_gq_ dp) 3 (W_X6_readTail dp ad)) (hg9 : jCN l D vwCl (tyC cy) cy ad ftC ksC (XtC ad) yX6_readAtom (.code yX6_readAtom cX6_readAtom 1 (some .boolean) :: Om) (rm_gq_ dp) 3 (W_X6_readAtom dp ad)) (hg10 : jCN l D vwCl (tyC cy) cy ad ftC ksC (XtC ad) yX6_readInner (.code yX6_readInner cX6_readInner 1 (some .boolean) :: Om) (rm_gq_ dp) 3 (W_X6_readInner dp ad)) (hg11 : jCN l D vwCl (tyC cy) cy ad ftC ksC (XtC ad) yX6_readFold (.code yX6_readFold cX6_readFold 5 (some .boolean) :: Om) (rm_gq_ dp) 3 (W_X6_readFold dp ad)) (hg12 : jCN l D vwCl (tyC cy) cy ad ftC ksC (XtC ad) yX6_readFoldBody (.code yX6_readFoldBody cX6_readFoldBody 4 (some .boolean) :: Om) (rm_gq_ dp) 3 (W_X6_readFoldBody dp ad)) (hg13 : jCN l D vwCl (tyC cy) cy ad ftC ksC (XtC ad) yX6_readSet (.code yX6_readSet cX6_readSet 3 (some .boolean) :: Om) (rm_gq_ dp) 3 (W_X6_readSet dp ad)) (hg14 : jCN l D vwCl (tyC cy) cy ad ftC ksC (XtC ad) yX6_readWhere (.code yX6_readWhere cX6_readWhere 2 (some .boolean) :: Om) (rm_gq_ dp) 3 (W_X6_readWhere dp ad)) : jCN l D vwCl (tyC cy) cy ad ftC ksC (XtC ad) yX6_readProducts (.code yX6_readProducts cX6_readProducts 3 (some .boolean) :: Om) (rm_gq_ (dp + 1)) 3 (W_X6_readProducts (dp + 1) ad) := by
  refine jCN_of (y := yX6_readProducts) (cc := cX6_readProducts) (nL := 3) (rk := 3) (rm := (rm_gq_ (dp + 1))) (own := RX6) (tyC_ok cy) hin (XtC_ok ad) Om_good (by decide) rfl ?_
  intro Q av M hF
  obtain ⟨c, rfl, hc, hF⟩ := hF
  refine ⟨Nat.le_of_ble_eq_true rfl, fun J hJ => ?_⟩
  show J 0 [(0, .ref (ad c))] [] M
  have hF : b_X6_readProducts c (gq_ c dp) Q  M := hF
  unfold b_X6_readProducts at hF
  refine j_aload_n hJ dX6_readProducts_0 rfl 0 rfl ?_
  refine j_callVz hJ hg6 rfl om_655 ⟨rfl, rfl, by show _ ≤ _; simp only [rm_gq_]; omega, by show _ ≤ _; simp only [rm_gq_]; omega⟩ [] mv_X6_147 hd_X6_readSignedv (kG_0 hc) rfl rfl rfl (Nat.le_of_ble_eq_true rfl) dX6_readProducts_1 ⟨c, rfl, hc, hF⟩ (fun r1 M2 gr1 qM2 => ?_)
  have hF := qM2 gr1
  refine j_if_ne hJ 9 (jz_ri gr1) dX6_readProducts_4 (by decide) (fun z3 => ?_) (fun z3 => ?_)
  · have hF := hF.1 z3
    refine j_iconst hJ dX6_readProducts_9 ?_
    refine j_istore_n (lv' := [(1, .int (Ii 0)), (0, .ref (ad c))]) hJ dX6_readProducts_10 rfl (by decide) rfl ?_
    exact j_sub hJ [1, 0] rfl (k_X6_readProducts_b11 hin hc hg0 hg1 hg2 hg3 hg4 hg5 hg6 hg7 hg8 hg9 hg10 hg11 hg12 hg13 hg14 hJ  0 _ rk_0 hF)
  · have hF := hF.2 z3
    refine j_iconst hJ dX6_readProducts_7 ?_
    exact j_zret hJ rfl (by decide) dX6_readProducts_8 hF
set_option maxHeartbeats 4000000 in
set_option maxRecDepth 100000 in
theorem k_X6_readSigned_b53 {l : Launch} {D : va_G} {cy : Nat → ClassId} {ad : Nat → Nat} {dp : Nat} {Q : Int → MM → Prop} {J : Nat → List (Nat × Value) → List Value → MM → Prop} (hin : jIn ad ksC.length) {c : Nat} (hc : isG c) (hg0 : jCN l D vwCl (tyC cy) cy ad ftC ksC (XtC ad) yX6_readE (.code yX6_readE cX6_readE 3 (some .boolean) :: Om) (rm_gq_ dp) 3 (W_X6_readE dp ad)) (hg1 : jCN l D vwCl (tyC cy) cy ad ftC ksC (XtC ad) yX6_readAnds (.code yX6_readAnds cX6_readAnds 3 (some .boolean) :: Om) (rm_gq_ dp) 3 (W_X6_readAnds dp ad)) (hg2 : jCN l D vwCl (tyC cy) cy ad ftC ksC (XtC ad) yX6_readNots (.code yX6_readNots cX6_readNots 3 (some .boolean) :: Om) (rm_gq_ dp) 3 (W_X6_readNots dp ad)) (hg3 : jCN l D vwCl (tyC cy) cy ad ftC ksC (XtC ad) yX6_readComparison (.code yX6_readComparison cX6_readComparison 2 (some .boolean) :: Om) (rm_gq_ dp) 3 (W_X6_readComparison dp ad)) (hg4 : jCN l D vwCl (tyC cy) cy ad ftC ksC (XtC ad) yX6_readSums (.code yX6_readSums cX6_readSums 3 (some .boolean) :: Om) (rm_gq_ dp) 3 (W_X6_readSums dp ad)) (hg5 : jCN l D vwCl (tyC cy) cy ad ftC ksC (XtC ad) yX6_readProducts (.code yX6_readProducts cX6_readProducts 3 (some .boolean) :: Om) (rm_gq_ dp) 3 (W_X6_readProducts dp ad)) (hg6 : jCN l D vwCl (tyC cy) cy ad ftC ksC (XtC ad) yX6_readSigned (.code yX6_readSigned cX6_readSigned 3 (some .boolean) :: Om) (rm_gq_ dp) 3 (W_X6_readSigned dp ad)) (hg7 : jCN l D vwCl (tyC cy) cy ad ftC ksC (XtC ad) yX6_readP (.code yX6_readP cX6_readP 3 (some .boolean) :: Om) (rm_gq_ dp) 3 (W_X6_readP dp ad)) (hg8 : jCN l D vwCl (tyC cy) cy ad ftC ksC (XtC ad) yX6_readTail (.code yX6_readTail cX6_readTail 3 (some .boolean) :: Om) (rm_gq_ dp) 3 (W_X6_readTail dp ad)) (hg9 : jCN l D vwCl (tyC cy) cy ad ftC ksC (XtC ad) yX6_readAtom (.code yX6_readAtom cX6_readAtom 1 (some .boolean) :: Om) (rm_gq_ dp) 3 (W_X6_readAtom dp ad)) (hg10 : jCN l D vwCl (tyC cy) cy ad ftC ksC (XtC ad) yX6_readInner (.code yX6_readInner cX6_readInner 1 (some .boolean) :: Om) (rm_gq_ dp) 3 (W_X6_readInner dp ad)) (hg11 : jCN l D vwCl (tyC cy) cy ad ftC ksC (XtC ad) yX6_readFold (.code yX6_readFold cX6_readFold 5 (some .boolean) :: Om) (rm_gq_ dp) 3 (W_X6_readFold dp ad)) (hg12 : jCN l D vwCl (tyC cy) cy ad ftC ksC (XtC ad) yX6_readFoldBody (.code yX6_readFoldBody cX6_readFoldBody 4 (some .boolean) :: Om) (rm_gq_ dp) 3 (W_X6_readFoldBody dp ad)) (hg13 : jCN l D vwCl (tyC cy) cy ad ftC ksC (XtC ad) yX6_readSet (.code yX6_readSet cX6_readSet 3 (some .boolean) :: Om) (rm_gq_ dp) 3 (W_X6_readSet dp ad)) (hg14 : jCN l D vwCl (tyC cy) cy ad ftC ksC (XtC ad) yX6_readWhere (.code yX6_readWhere cX6_readWhere 2 (some .boolean) :: Om) (rm_gq_ dp) 3 (W_X6_readWhere dp ad)) (hJ : jOk l D vwCl (tyC cy) cy ad ftC ksC (XtC ad) Om RX6 cX6_readSigned 3 3 (rm_gq_ (dp + 1)) Q J)  : ∀ (x1 x2 : Int) (M : MM), ri_ x1 → ri_ x2 → w_X6_readSigned_b53 c (gq_ c dp) Q  x1 x2 M → J 53 [(0, .ref (ad c)), (1, .int (Ii x1)), (2, .int (Ii x2))] [] M := by
  have H9 : ∀ (n : Nat) (x1 x2 : Int) (M : MM), ri_ x1 → ri_ x2 → jit (fun _ _ _ => False) (wb_X6_readSigned_b53 c (gq_ c dp) Q ) n x1 x2 M → J 53 [(0, .ref (ad c)), (1, .int (Ii x1)), (2, .int (Ii x2))] [] M := by
    intro n
    induction n with
    | zero => intro x1 x2 M gx1 gx2 hF; exact False.elim hF
    | succ n ih =>
    intro x1 x2 M gx1 gx2 hF
    have hF : wb_X6_readSigned_b53 c (gq_ c dp) Q  (jit (fun _ _ _ => False) (wb_X6_readSigned_b53 c (gq_ c dp) Q ) n) x1 x2 M := hF
    unfold wb_X6_readSigned_b53 at hF
    refine j_iload_n hJ dX6_readSigned_53 rfl 2 rfl ?_
    refine j_iload_n hJ dX6_readSigned_54 rfl 1 rfl ?_
    refine j_icmp_ge hJ 74 gx2 gx1 dX6_readSigned_55 (by decide) (fun z1 => ?_) (fun z1 => ?_)
    · have hF := hF.1 z1
      refine j_iconst hJ dX6_readSigned_74 ?_
      exact j_zret hJ rfl (by decide) dX6_readSigned_75 hF
    · have hF := hF.2 z1
      refine j_aload_n hJ dX6_readSigned_58 rfl 0 rfl ?_
      refine j_bipush hJ dX6_readSigned_59 (by decide) ?_
      refine j_iconst hJ dX6_readSigned_61 ?_
      refine j_iconst hJ dX6_readSigned_62 ?_
      refine j_lconst (x := 0) hJ dX6_readSigned_63 rfl ?_
      refine j_callVi hJ (c_X6_emit (l := l) (D := D) (cy := cy) (ad := ad) hin) rfl om_623 ⟨rfl, rfl, by show _ ≤ _; simp only [rm_gq_]; omega, by show _ ≤ _; simp only [rm_gq_]; omega⟩ [.int (Ii 12), .int (Ii 0), .int (Ii 0), .long (Ll 0)] mv_X6_58 hd_X6_emitv (kG_0 hc) rfl rfl rfl (Nat.le_of_ble_eq_true rfl) dX6_readSigned_64 ⟨c, 12, 0, 0, 0, rfl, hc, rk_12, rk_0, rk_0, lkm_0, hF⟩ (fun r2 M3 gr2 qM3 => ?_)
      have hF := qM3 gr2
      refine j_pop hJ dX6_readSigned_67 rfl ?_
      refine j_iinc (lv' := [(2, .int (Ii (x2 + 1))), (0, .ref (ad c)), (1, .int (Ii x1))]) (k := 2) hJ dX6_readSigned_68 rfl (by decide) rfl ?_
      have g4 := hF.1; have hF := hF.2
      refine j_goto hJ 53 dX6_readSigned_71 (by decide) ?_
      exact j_sub hJ [1, 2, 0] rfl (ih x1 (x2 + 1) _ gx1 g4 hF)
  intro x1 x2 M gx1 gx2 hF
  obtain ⟨n, hF⟩ := hF
  exact H9 n x1 x2 M gx1 gx2 hF
set_option maxHeartbeats 4000000 in
set_option maxRecDepth 100000 in
theorem k_X6_readSigned_b42 {l : Launch} {D : va_G} {cy : Nat → ClassId} {ad : Nat → Nat} {dp : Nat} {Q : Int → MM → Prop} {J : Nat → List (Nat × Value) → List Value → MM → Prop} (hin : jIn ad ksC.length) {c : Nat} (hc : isG c) (hg0 : jCN l D vwCl (tyC cy) cy ad ftC ksC (XtC ad) yX6_readE (.code yX6_readE cX6_readE 3 (some .boolean) :: Om) (rm_gq_ dp) 3 (W_X6_readE dp ad)) (hg1 : jCN l D vwCl (tyC cy) cy ad ftC ksC (XtC ad) yX6_readAnds (.code yX6_readAnds cX6_readAnds 3 (some .boolean) :: Om) (rm_gq_ dp) 3 (W_X6_readAnds dp ad)) (hg2 : jCN l D vwCl (tyC cy) cy ad ftC ksC (XtC ad) yX6_readNots (.code yX6_readNots cX6_readNots 3 (some .boolean) :: Om) (rm_gq_ dp) 3 (W_X6_readNots dp ad)) (hg3 : jCN l D vwCl (tyC cy) cy ad ftC ksC (XtC ad) yX6_readComparison (.code yX6_readComparison cX6_readComparison 2 (some .boolean) :: Om) (rm_gq_ dp) 3 (W_X6_readComparison dp ad)) (hg4 : jCN l D vwCl (tyC cy) cy ad ftC ksC (XtC ad) yX6_readSums (.code yX6_readSums cX6_readSums 3 (some .boolean) :: Om) (rm_gq_ dp) 3 (W_X6_readSums dp ad)) (hg5 : jCN l D vwCl (tyC cy) cy ad ftC ksC (XtC ad) yX6_readProducts (.code yX6_readProducts cX6_readProducts 3 (some .boolean) :: Om) (rm_gq_ dp) 3 (W_X6_readProducts dp ad)) (hg6 : jCN l D vwCl (tyC cy) cy ad ftC ksC (XtC ad) yX6_readSigned (.code yX6_readSigned cX6_readSigned 3 (some .boolean) :: Om) (rm_gq_ dp) 3 (W_X6_readSigned dp ad)) (hg7 : jCN l D vwCl (tyC cy) cy ad ftC ksC (XtC ad) yX6_readP (.code yX6_readP cX6_readP 3 (some .boolean) :: Om) (rm_gq_ dp) 3 (W_X6_readP dp ad)) (hg8 : jCN l D vwCl (tyC cy) cy ad ftC ksC (XtC ad) yX6_readTail (.code yX6_readTail cX6_readTail 3 (some .boolean) :: Om) (rm_gq_ dp) 3 (W_X6_readTail dp ad)) (hg9 : jCN l D vwCl (tyC cy) cy ad ftC ksC (XtC ad) yX6_readAtom (.code yX6_readAtom cX6_readAtom 1 (some .boolean) :: Om) (rm_gq_ dp) 3 (W_X6_readAtom dp ad)) (hg10 : jCN l D vwCl (tyC cy) cy ad ftC ksC (XtC ad) yX6_readInner (.code yX6_readInner cX6_readInner 1 (some .boolean) :: Om) (rm_gq_ dp) 3 (W_X6_readInner dp ad)) (hg11 : jCN l D vwCl (tyC cy) cy ad ftC ksC (XtC ad) yX6_readFold (.code yX6_readFold cX6_readFold 5 (some .boolean) :: Om) (rm_gq_ dp) 3 (W_X6_readFold dp ad)) (hg12 : jCN l D vwCl (tyC cy) cy ad ftC ksC (XtC ad) yX6_readFoldBody (.code yX6_readFoldBody cX6_readFoldBody 4 (some .boolean) :: Om) (rm_gq_ dp) 3 (W_X6_readFoldBody dp ad)) (hg13 : jCN l D vwCl (tyC cy) cy ad ftC ksC (XtC ad) yX6_readSet (.code yX6_readSet cX6_readSet 3 (some .boolean) :: Om) (rm_gq_ dp) 3 (W_X6_readSet dp ad)) (hg14 : jCN l D vwCl (tyC cy) cy ad ftC ksC (XtC ad) yX6_readWhere (.code yX6_readWhere cX6_readWhere 2 (some .boolean) :: Om) (rm_gq_ dp) 3 (W_X6_readWhere dp ad)) (hJ : jOk l D vwCl (tyC cy) cy ad ftC ksC (XtC ad) Om RX6 cX6_readSigned 3 3 (rm_gq_ (dp + 1)) Q J)  : ∀ (x1 : Int) (M : MM), ri_ x1 → w_X6_readSigned_b42 c (gq_ c dp) Q  x1 M → J 42 [(0, .ref (ad c)), (1, .int (Ii x1))] [] M := by
  intro x1 M gx1 hF
  unfold w_X6_readSigned_b42 at hF
  refine j_aload_n hJ dX6_readSigned_42 rfl 0 rfl ?_
  refine j_callVz hJ hg7 rfl om_659 ⟨rfl, rfl, by show _ ≤ _; simp only [rm_gq_]; omega, by show _ ≤ _; simp only [rm_gq_]; omega⟩ [] mv_X6_125 hd_X6_readPv (kG_0 hc) rfl rfl rfl (Nat.le_of_ble_eq_true rfl) dX6_readSigned_43 ⟨c, rfl, hc, hF⟩ (fun r1 M2 gr1 qM2 => ?_)
  have hF := qM2 gr1
  refine j_if_ne hJ 51 (jz_ri gr1) dX6_readSigned_46 (by decide) (fun z3 => ?_) (fun z3 => ?_)
  · have hF := hF.1 z3
    refine j_iconst hJ dX6_readSigned_51 ?_
    refine j_istore_n (lv' := [(2, .int (Ii 0)), (0, .ref (ad c)), (1, .int (Ii x1))]) hJ dX6_readSigned_52 rfl (by decide) rfl ?_
    exact j_sub hJ [1, 2, 0] rfl (k_X6_readSigned_b53 hin hc hg0 hg1 hg2 hg3 hg4 hg5 hg6 hg7 hg8 hg9 hg10 hg11 hg12 hg13 hg14 hJ  x1 0 _ gx1 rk_0 hF)
  · have hF := hF.2 z3
    refine j_iconst hJ dX6_readSigned_49 ?_
    exact j_zret hJ rfl (by decide) dX6_readSigned_50 hF
set_option maxHeartbeats 4000000 in
set_option maxRecDepth 100000 in
theorem k_X6_readSigned_b2 {l : Launch} {D : va_G} {cy : Nat → ClassId} {ad : Nat → Nat} {dp : Nat} {Q : Int → MM → Prop} {J : Nat → List (Nat × Value) → List Value → MM → Prop} (hin : jIn ad ksC.length) {c : Nat} (hc : isG c) (hg0 : jCN l D vwCl (tyC cy) cy ad ftC ksC (XtC ad) yX6_readE (.code yX6_readE cX6_readE 3 (some .boolean) :: Om) (rm_gq_ dp) 3 (W_X6_readE dp ad)) (hg1 : jCN l D vwCl (tyC cy) cy ad ftC ksC (XtC ad) yX6_readAnds (.code yX6_readAnds cX6_readAnds 3 (some .boolean) :: Om) (rm_gq_ dp) 3 (W_X6_readAnds dp ad)) (hg2 : jCN l D vwCl (tyC cy) cy ad ftC ksC (XtC ad) yX6_readNots (.code yX6_readNots cX6_readNots 3 (some .boolean) :: Om) (rm_gq_ dp) 3 (W_X6_readNots dp ad)) (hg3 : jCN l D vwCl (tyC cy) cy ad ftC ksC (XtC ad) yX6_readComparison (.code yX6_readComparison cX6_readComparison 2 (some .boolean) :: Om) (rm_gq_ dp) 3 (W_X6_readComparison dp ad)) (hg4 : jCN l D vwCl (tyC cy) cy ad ftC ksC (XtC ad) yX6_readSums (.code yX6_readSums cX6_readSums 3 (some .boolean) :: Om) (rm_gq_ dp) 3 (W_X6_readSums dp ad)) (hg5 : jCN l D vwCl (tyC cy) cy ad ftC ksC (XtC ad) yX6_readProducts (.code yX6_readProducts cX6_readProducts 3 (some .boolean) :: Om) (rm_gq_ dp) 3 (W_X6_readProducts dp ad)) (hg6 : jCN l D vwCl (tyC cy) cy ad ftC ksC (XtC ad) yX6_readSigned (.code yX6_readSigned cX6_readSigned 3 (some .boolean) :: Om) (rm_gq_ dp) 3 (W_X6_readSigned dp ad)) (hg7 : jCN l D vwCl (tyC cy) cy ad ftC ksC (XtC ad) yX6_readP (.code yX6_readP cX6_readP 3 (some .boolean) :: Om) (rm_gq_ dp) 3 (W_X6_readP dp ad)) (hg8 : jCN l D vwCl (tyC cy) cy ad ftC ksC (XtC ad) yX6_readTail (.code yX6_readTail cX6_readTail 3 (some .boolean) :: Om) (rm_gq_ dp) 3 (W_X6_readTail dp ad)) (hg9 : jCN l D vwCl (tyC cy) cy ad ftC ksC (XtC ad) yX6_readAtom (.code yX6_readAtom cX6_readAtom 1 (some .boolean) :: Om) (rm_gq_ dp) 3 (W_X6_readAtom dp ad)) (hg10 : jCN l D vwCl (tyC cy) cy ad ftC ksC (XtC ad) yX6_readInner (.code yX6_readInner cX6_readInner 1 (some .boolean) :: Om) (rm_gq_ dp) 3 (W_X6_readInner dp ad)) (hg11 : jCN l D vwCl (tyC cy) cy ad ftC ksC (XtC ad) yX6_readFold (.code yX6_readFold cX6_readFold 5 (some .boolean) :: Om) (rm_gq_ dp) 3 (W_X6_readFold dp ad)) (hg12 : jCN l D vwCl (tyC cy) cy ad ftC ksC (XtC ad) yX6_readFoldBody (.code yX6_readFoldBody cX6_readFoldBody 4 (some .boolean) :: Om) (rm_gq_ dp) 3 (W_X6_readFoldBody dp ad)) (hg13 : jCN l D vwCl (tyC cy) cy ad ftC ksC (XtC ad) yX6_readSet (.code yX6_readSet cX6_readSet 3 (some .boolean) :: Om) (rm_gq_ dp) 3 (W_X6_readSet dp ad)) (hg14 : jCN l D vwCl (tyC cy) cy ad ftC ksC (XtC ad) yX6_readWhere (.code yX6_readWhere cX6_readWhere 2 (some .boolean) :: Om) (rm_gq_ dp) 3 (W_X6_readWhere dp ad)) (hJ : jOk l D vwCl (tyC cy) cy ad ftC ksC (XtC ad) Om RX6 cX6_readSigned 3 3 (rm_gq_ (dp + 1)) Q J)  : ∀ (x1 : Int) (M : MM), ri_ x1 → w_X6_readSigned_b2 c (gq_ c dp) Q  x1 M → J 2 [(0, .ref (ad c)), (1, .int (Ii x1))] [] M := by
  have H9 : ∀ (n : Nat) (x1 : Int) (M : MM), ri_ x1 → jit (fun _ _ => False) (wb_X6_readSigned_b2 c (gq_ c dp) Q ) n x1 M → J 2 [(0, .ref (ad c)), (1, .int (Ii x1))] [] M := by
    intro n
    induction n with
    | zero => intro x1 M gx1 hF; exact False.elim hF
    | succ n ih =>
    intro x1 M gx1 hF
    have hF : wb_X6_readSigned_b2 c (gq_ c dp) Q  (jit (fun _ _ => False) (wb_X6_readSigned_b2 c (gq_ c dp) Q ) n) x1 M := hF
    unfold wb_X6_readSigned_b2 at hF
    refine j_aload_n hJ dX6_readSigned_2 rfl 0 rfl ?_
    refine j_ga hJ (kG_0 hc) fC_9_0 fl_X6_9 dX6_readSigned_3 ?_
    refine j_gi hJ kC_1 fC_12_9 rfl fl_X6_45 dX6_readSigned_6 (fun v1 ev1 gv1 => ?_)
    have hF := hF v1 ev1 gv1
    refine j_bipush hJ dX6_readSigned_9 (by decide) ?_
    refine j_icmp_ne hJ 42 gv1 rk_16 dX6_readSigned_11 (by decide) (fun z2 => ?_) (fun z2 => ?_)
    · have hF := hF.1 z2
      exact j_sub hJ [0, 1] rfl (k_X6_readSigned_b42 hin hc hg0 hg1 hg2 hg3 hg4 hg5 hg6 hg7 hg8 hg9 hg10 hg11 hg12 hg13 hg14 hJ  x1 _ gx1 hF)
    · have hF := hF.2 z2
      refine j_iload_n hJ dX6_readSigned_14 rfl 1 rfl ?_
      refine j_bipush hJ dX6_readSigned_15 (by decide) ?_
      refine j_icmp_gt hJ 42 gx1 rk_120 dX6_readSigned_17 (by decide) (fun z3 => ?_) (fun z3 => ?_)
      · have hF := hF.1 z3
        exact j_sub hJ [0, 1] rfl (k_X6_readSigned_b42 hin hc hg0 hg1 hg2 hg3 hg4 hg5 hg6 hg7 hg8 hg9 hg10 hg11 hg12 hg13 hg14 hJ  x1 _ gx1 hF)
      · have hF := hF.2 z3
        refine j_aload_n hJ dX6_readSigned_20 rfl 0 rfl ?_
        refine j_callVz hJ (c_X6_addNode (l := l) (D := D) (cy := cy) (ad := ad) hin) rfl om_618 ⟨rfl, rfl, by show _ ≤ _; simp only [rm_gq_]; omega, by show _ ≤ _; simp only [rm_gq_]; omega⟩ [] mv_X6_115 hd_X6_addNodev (kG_0 hc) rfl rfl rfl (Nat.le_of_ble_eq_true rfl) dX6_readSigned_21 ⟨c, rfl, hc, hF⟩ (fun r4 M5 gr4 qM5 => ?_)
        have hF := qM5 gr4
        refine j_if_ne hJ 29 (jz_ri gr4) dX6_readSigned_24 (by decide) (fun z6 => ?_) (fun z6 => ?_)
        · have hF := hF.1 z6
          refine j_iinc (lv' := [(1, .int (Ii (x1 + 1))), (0, .ref (ad c))]) (k := 1) hJ dX6_readSigned_29 rfl (by decide) rfl ?_
          have g7 := hF.1; have hF := hF.2
          refine j_aload_n hJ dX6_readSigned_32 rfl 1 rfl ?_
          refine j_ga hJ (kG_0 hc) fC_9_0 fl_X6_9 dX6_readSigned_33 ?_
          refine j_callVv hJ (c_X9_nextWord (l := l) (D := D) (cy := cy) (ad := ad) hin) rfl om_597 ⟨rfl, rfl, by show _ ≤ _; simp only [rm_gq_]; omega, by show _ ≤ _; simp only [rm_gq_]; omega⟩ [] mv_X6_69 hd_X9_nextWordv kC_1 rfl rfl rfl (Nat.le_of_ble_eq_true rfl) dX6_readSigned_36 ⟨rfl, hF⟩ (fun M9 qM9 => ?_)
          have hF := qM9
          refine j_goto hJ 2 dX6_readSigned_39 (by decide) ?_
          exact j_sub hJ [1, 0] rfl (ih (x1 + 1) _ g7 hF)
        · have hF := hF.2 z6
          refine j_iconst hJ dX6_readSigned_27 ?_
          exact j_zret hJ rfl (by decide) dX6_readSigned_28 hF
  intro x1 M gx1 hF
  obtain ⟨n, hF⟩ := hF
  exact H9 n x1 M gx1 hF
set_option maxHeartbeats 4000000 in
set_option maxRecDepth 100000 in
theorem s_X6_readSigned {l : Launch} {D : va_G} {cy : Nat → ClassId} {ad : Nat → Nat} {dp : Nat} (hin : jIn ad ksC.length) (hg0 : jCN l D vwCl (tyC cy) cy ad ftC ksC (XtC ad) yX6_readE (.code yX6_readE cX6_readE 3 (some .boolean) :: Om) (rm_gq_ dp) 3 (W_X6_readE dp ad)) (hg1 : jCN l D vwCl (tyC cy) cy ad ftC ksC (XtC ad) yX6_readAnds (.code yX6_readAnds cX6_readAnds 3 (some .boolean) :: Om) (rm_gq_ dp) 3 (W_X6_readAnds dp ad)) (hg2 : jCN l D vwCl (tyC cy) cy ad ftC ksC (XtC ad) yX6_readNots (.code yX6_readNots cX6_readNots 3 (some .boolean) :: Om) (rm_gq_ dp) 3 (W_X6_readNots dp ad)) (hg3 : jCN l D vwCl (tyC cy) cy ad ftC ksC (XtC ad) yX6_readComparison (.code yX6_readComparison cX6_readComparison 2 (some .boolean) :: Om) (rm_gq_ dp) 3 (W_X6_readComparison dp ad)) (hg4 : jCN l D vwCl (tyC cy) cy ad ftC ksC (XtC ad) yX6_readSums (.code yX6_readSums cX6_readSums 3 (some .boolean) :: Om) (rm_gq_ dp) 3 (W_X6_readSums dp ad)) (hg5 : jCN l D vwCl (tyC cy) cy ad ftC ksC (XtC ad) yX6_readProducts (.code yX6_readProducts cX6_readProducts 3 (some .boolean) :: Om) (rm_gq_ dp) 3 (W_X6_readProducts dp ad)) (hg6 : jCN l D vwCl (tyC cy) cy ad ftC ksC (XtC ad) yX6_readSigned (.code yX6_readSigned cX6_readSigned 3 (some .boolean) :: Om) (rm_gq_ dp) 3 (W_X6_readSigned dp ad)) (hg7 : jCN l D vwCl (tyC cy) cy ad ftC ksC (XtC ad) yX6_readP (.code yX6_readP cX6_readP 3 (some .boolean) :: Om) (rm_gq_ dp) 3 (W_X6_readP dp ad)) (hg8 : jCN l D vwCl (tyC cy) cy ad ftC ksC (XtC ad) yX6_readTail (.code yX6_readTail cX6_readTail 3 (some .boolean) :: Om) (rm_gq_ dp) 3 (W_X6_readTail dp ad)) (hg9 : jCN l D vwCl (tyC cy) cy ad ftC ksC (XtC ad) yX6_readAtom (.code yX6_readAtom cX6_readAtom 1 (some .boolean) :: Om) (rm_gq_ dp) 3 (W_X6_readAtom dp ad)) (hg10 : jCN l D vwCl (tyC cy) cy ad ftC ksC (XtC ad) yX6_readInner (.code yX6_readInner cX6_readInner 1 (some .boolean) :: Om) (rm_gq_ dp) 3 (W_X6_readInner dp ad)) (hg11 : jCN l D vwCl (tyC cy) cy ad ftC ksC (XtC ad) yX6_readFold (.code yX6_readFold cX6_readFold 5 (some .boolean) :: Om) (rm_gq_ dp) 3 (W_X6_readFold dp ad)) (hg12 : jCN l D vwCl (tyC cy) cy ad ftC ksC (XtC ad) yX6_readFoldBody (.code yX6_readFoldBody cX6_readFoldBody 4 (some .boolean) :: Om) (rm_gq_ dp) 3 (W_X6_readFoldBody dp ad)) (hg13 : jCN l D vwCl (tyC cy) cy ad ftC ksC (XtC ad) yX6_readSet (.code yX6_readSet cX6_readSet 3 (some .boolean) :: Om) (rm_gq_ dp) 3 (W_X6_readSet dp ad)) (hg14 : jCN l D vwCl (tyC cy) cy ad ftC ksC (XtC ad) yX6_readWhere (.code yX6_readWhere cX6_readWhere 2 (some .boolean) :: Om) (rm_gq_ dp) 3 (W_X6_readWhere dp ad)) : jCN l D vwCl (tyC cy) cy ad ftC ksC (XtC ad) yX6_readSigned (.code yX6_readSigned cX6_readSigned 3 (some .boolean) :: Om) (rm_gq_ (dp + 1)) 3 (W_X6_readSigned (dp + 1) ad) := by
  refine jCN_of (y := yX6_readSigned) (cc := cX6_readSigned) (nL := 3) (rk := 3) (rm := (rm_gq_ (dp + 1))) (own := RX6) (tyC_ok cy) hin (XtC_ok ad) Om_good (by decide) rfl ?_
  intro Q av M hF
  obtain ⟨c, rfl, hc, hF⟩ := hF
  refine ⟨Nat.le_of_ble_eq_true rfl, fun J hJ => ?_⟩
  show J 0 [(0, .ref (ad c))] [] M
  have hF : b_X6_readSigned c (gq_ c dp) Q  M := hF
  unfold b_X6_readSigned at hF
  refine j_iconst hJ dX6_readSigned_0 ?_
  refine j_istore_n (lv' := [(1, .int (Ii 0)), (0, .ref (ad c))]) hJ dX6_readSigned_1 rfl (by decide) rfl ?_
  exact j_sub hJ [1, 0] rfl (k_X6_readSigned_b2 hin hc hg0 hg1 hg2 hg3 hg4 hg5 hg6 hg7 hg8 hg9 hg10 hg11 hg12 hg13 hg14 hJ  0 _ rk_0 hF)
set_option maxHeartbeats 4000000 in
set_option maxRecDepth 100000 in
theorem k_X6_readP_b107 {l : Launch} {D : va_G} {cy : Nat → ClassId} {ad : Nat → Nat} {dp : Nat} {Q : Int → MM → Prop} {J : Nat → List (Nat × Value) → List Value → MM → Prop} (hin : jIn ad ksC.length) {c : Nat} (hc : isG c) (hg0 : jCN l D vwCl (tyC cy) cy ad ftC ksC (XtC ad) yX6_readE (.code yX6_readE cX6_readE 3 (some .boolean) :: Om) (rm_gq_ dp) 3 (W_X6_readE dp ad)) (hg1 : jCN l D vwCl (tyC cy) cy ad ftC ksC (XtC ad) yX6_readAnds (.code yX6_readAnds cX6_readAnds 3 (some .boolean) :: Om) (rm_gq_ dp) 3 (W_X6_readAnds dp ad)) (hg2 : jCN l D vwCl (tyC cy) cy ad ftC ksC (XtC ad) yX6_readNots (.code yX6_readNots cX6_readNots 3 (some .boolean) :: Om) (rm_gq_ dp) 3 (W_X6_readNots dp ad)) (hg3 : jCN l D vwCl (tyC cy) cy ad ftC ksC (XtC ad) yX6_readComparison (.code yX6_readComparison cX6_readComparison 2 (some .boolean) :: Om) (rm_gq_ dp) 3 (W_X6_readComparison dp ad)) (hg4 : jCN l D vwCl (tyC cy) cy ad ftC ksC (XtC ad) yX6_readSums (.code yX6_readSums cX6_readSums 3 (some .boolean) :: Om) (rm_gq_ dp) 3 (W_X6_readSums dp ad)) (hg5 : jCN l D vwCl (tyC cy) cy ad ftC ksC (XtC ad) yX6_readProducts (.code yX6_readProducts cX6_readProducts 3 (some .boolean) :: Om) (rm_gq_ dp) 3 (W_X6_readProducts dp ad)) (hg6 : jCN l D vwCl (tyC cy) cy ad ftC ksC (XtC ad) yX6_readSigned (.code yX6_readSigned cX6_readSigned 3 (some .boolean) :: Om) (rm_gq_ dp) 3 (W_X6_readSigned dp ad)) (hg7 : jCN l D vwCl (tyC cy) cy ad ftC ksC (XtC ad) yX6_readP (.code yX6_readP cX6_readP 3 (some .boolean) :: Om) (rm_gq_ dp) 3 (W_X6_readP dp ad)) (hg8 : jCN l D vwCl (tyC cy) cy ad ftC ksC (XtC ad) yX6_readTail (.code yX6_readTail cX6_readTail 3 (some .boolean) :: Om) (rm_gq_ dp) 3 (W_X6_readTail dp ad)) (hg9 : jCN l D vwCl (tyC cy) cy ad ftC ksC (XtC ad) yX6_readAtom (.code yX6_readAtom cX6_readAtom 1 (some .boolean) :: Om) (rm_gq_ dp) 3 (W_X6_readAtom dp ad)) (hg10 : jCN l D vwCl (tyC cy) cy ad ftC ksC (XtC ad) yX6_readInner (.code yX6_readInner cX6_readInner 1 (some .boolean) :: Om) (rm_gq_ dp) 3 (W_X6_readInner dp ad)) (hg11 : jCN l D vwCl (tyC cy) cy ad ftC ksC (XtC ad) yX6_readFold (.code yX6_readFold cX6_readFold 5 (some .boolean) :: Om) (rm_gq_ dp) 3 (W_X6_readFold dp ad)) (hg12 : jCN l D vwCl (tyC cy) cy ad ftC ksC (XtC ad) yX6_readFoldBody (.code yX6_readFoldBody cX6_readFoldBody 4 (some .boolean) :: Om) (rm_gq_ dp) 3 (W_X6_readFoldBody dp ad)) (hg13 : jCN l D vwCl (tyC cy) cy ad ftC ksC (XtC ad) yX6_readSet (.code yX6_readSet cX6_readSet 3 (some .boolean) :: Om) (rm_gq_ dp) 3 (W_X6_readSet dp ad)) (hg14 : jCN l D vwCl (tyC cy) cy ad ftC ksC (XtC ad) yX6_readWhere (.code yX6_readWhere cX6_readWhere 2 (some .boolean) :: Om) (rm_gq_ dp) 3 (W_X6_readWhere dp ad)) (hJ : jOk l D vwCl (tyC cy) cy ad ftC ksC (XtC ad) Om RX6 cX6_readP 3 3 (rm_gq_ (dp + 1)) Q J)  : ∀ (x1 : Int) (M : MM), ri_ x1 → w_X6_readP_b107 c (gq_ c dp) Q  x1 M → J 107 [(0, .ref (ad c)), (1, .int (Ii x1))] [] M := by
  have H9 : ∀ (n : Nat) (x1 : Int) (M : MM), ri_ x1 → jit (fun _ _ => False) (wb_X6_readP_b107 c (gq_ c dp) Q ) n x1 M → J 107 [(0, .ref (ad c)), (1, .int (Ii x1))] [] M := by
    intro n
    induction n with
    | zero => intro x1 M gx1 hF; exact False.elim hF
    | succ n ih =>
    intro x1 M gx1 hF
    have hF : wb_X6_readP_b107 c (gq_ c dp) Q  (jit (fun _ _ => False) (wb_X6_readP_b107 c (gq_ c dp) Q ) n) x1 M := hF
    unfold wb_X6_readP_b107 at hF
    refine j_aload_n hJ dX6_readP_107 rfl 0 rfl ?_
    refine j_gi hJ (kG_0 hc) fC_9_18 rfl fl_X6_99 dX6_readP_108 (fun v1 ev1 gv1 => ?_)
    have hF := hF v1 ev1 gv1
    refine j_iload_n hJ dX6_readP_111 rfl 1 rfl ?_
    refine j_icmp_le hJ 145 gv1 gx1 dX6_readP_112 (by decide) (fun z2 => ?_) (fun z2 => ?_)
    · have hF := hF.1 z2
      refine j_iconst hJ dX6_readP_145 ?_
      exact j_zret hJ rfl (by decide) dX6_readP_146 hF
    · have hF := hF.2 z2
      refine j_aload_n hJ dX6_readP_115 rfl 0 rfl ?_
      refine j_dup hJ dX6_readP_116 rfl ?_
      refine j_gi hJ (kG_0 hc) fC_9_18 rfl fl_X6_99 dX6_readP_117 (fun v3 ev3 gv3 => ?_)
      have hF := hF v3 ev3 gv3
      refine j_iconst hJ dX6_readP_120 ?_
      refine j_isub hJ dX6_readP_121 ?_
      have g4 := hF.1; have hF := hF.2
      refine j_pi hJ g4 (kG_0 hc) fC_9_18 rfl fp_X6_99 dX6_readP_122 (fun M5 eM5 => ?_)
      have hF := hF M5 eM5
      refine j_aload_n hJ dX6_readP_125 rfl 0 rfl ?_
      refine j_aload_n hJ dX6_readP_126 rfl 0 rfl ?_
      refine j_gr (e := (c + 7)) hJ (kG_0 hc) fC_9_17 fl_X6_35 dX6_readP_127 rfl ?_
      refine j_aload_n hJ dX6_readP_130 rfl 0 rfl ?_
      refine j_gi hJ (kG_0 hc) fC_9_18 rfl fl_X6_99 dX6_readP_131 (fun v6 ev6 gv6 => ?_)
      have hF := hF v6 ev6 gv6
      refine j_iald hJ gv6 (kG_7 hc) hF.1 hF.2.1 dX6_readP_134 (fun v7 ev7 gv7 => ?_)
      have hF := hF.2.2 v7 ev7 gv7
      refine j_iconst hJ dX6_readP_135 ?_
      refine j_iconst hJ dX6_readP_136 ?_
      refine j_lconst (x := 0) hJ dX6_readP_137 rfl ?_
      refine j_callVi hJ (c_X6_emit (l := l) (D := D) (cy := cy) (ad := ad) hin) rfl om_623 ⟨rfl, rfl, by show _ ≤ _; simp only [rm_gq_]; omega, by show _ ≤ _; simp only [rm_gq_]; omega⟩ [.int (Ii v7), .int (Ii 0), .int (Ii 0), .long (Ll 0)] mv_X6_58 hd_X6_emitv (kG_0 hc) rfl rfl rfl (Nat.le_of_ble_eq_true rfl) dX6_readP_138 ⟨c, v7, 0, 0, 0, rfl, hc, gv7, rk_0, rk_0, lkm_0, hF⟩ (fun r8 M9 gr8 qM9 => ?_)
      have hF := qM9 gr8
      refine j_pop hJ dX6_readP_141 rfl ?_
      refine j_goto hJ 107 dX6_readP_142 (by decide) ?_
      exact j_sub hJ [0, 1] rfl (ih x1 _ gx1 hF)
  intro x1 M gx1 hF
  obtain ⟨n, hF⟩ := hF
  exact H9 n x1 M gx1 hF
set_option maxHeartbeats 4000000 in
set_option maxRecDepth 100000 in
theorem k_X6_readP_b91 {l : Launch} {D : va_G} {cy : Nat → ClassId} {ad : Nat → Nat} {dp : Nat} {Q : Int → MM → Prop} {J : Nat → List (Nat × Value) → List Value → MM → Prop} (hin : jIn ad ksC.length) {c : Nat} (hc : isG c) (hg0 : jCN l D vwCl (tyC cy) cy ad ftC ksC (XtC ad) yX6_readE (.code yX6_readE cX6_readE 3 (some .boolean) :: Om) (rm_gq_ dp) 3 (W_X6_readE dp ad)) (hg1 : jCN l D vwCl (tyC cy) cy ad ftC ksC (XtC ad) yX6_readAnds (.code yX6_readAnds cX6_readAnds 3 (some .boolean) :: Om) (rm_gq_ dp) 3 (W_X6_readAnds dp ad)) (hg2 : jCN l D vwCl (tyC cy) cy ad ftC ksC (XtC ad) yX6_readNots (.code yX6_readNots cX6_readNots 3 (some .boolean) :: Om) (rm_gq_ dp) 3 (W_X6_readNots dp ad)) (hg3 : jCN l D vwCl (tyC cy) cy ad ftC ksC (XtC ad) yX6_readComparison (.code yX6_readComparison cX6_readComparison 2 (some .boolean) :: Om) (rm_gq_ dp) 3 (W_X6_readComparison dp ad)) (hg4 : jCN l D vwCl (tyC cy) cy ad ftC ksC (XtC ad) yX6_readSums (.code yX6_readSums cX6_readSums 3 (some .boolean) :: Om) (rm_gq_ dp) 3 (W_X6_readSums dp ad)) (hg5 : jCN l D vwCl (tyC cy) cy ad ftC ksC (XtC ad) yX6_readProducts (.code yX6_readProducts cX6_readProducts 3 (some .boolean) :: Om) (rm_gq_ dp) 3 (W_X6_readProducts dp ad)) (hg6 : jCN l D vwCl (tyC cy) cy ad ftC ksC (XtC ad) yX6_readSigned (.code yX6_readSigned cX6_readSigned 3 (some .boolean) :: Om) (rm_gq_ dp) 3 (W_X6_readSigned dp ad)) (hg7 : jCN l D vwCl (tyC cy) cy ad ftC ksC (XtC ad) yX6_readP (.code yX6_readP cX6_readP 3 (some .boolean) :: Om) (rm_gq_ dp) 3 (W_X6_readP dp ad)) (hg8 : jCN l D vwCl (tyC cy) cy ad ftC ksC (XtC ad) yX6_readTail (.code yX6_readTail cX6_readTail 3 (some .boolean) :: Om) (rm_gq_ dp) 3 (W_X6_readTail dp ad)) (hg9 : jCN l D vwCl (tyC cy) cy ad ftC ksC (XtC ad) yX6_readAtom (.code yX6_readAtom cX6_readAtom 1 (some .boolean) :: Om) (rm_gq_ dp) 3 (W_X6_readAtom dp ad)) (hg10 : jCN l D vwCl (tyC cy) cy ad ftC ksC (XtC ad) yX6_readInner (.code yX6_readInner cX6_readInner 1 (some .boolean) :: Om) (rm_gq_ dp) 3 (W_X6_readInner dp ad)) (hg11 : jCN l D vwCl (tyC cy) cy ad ftC ksC (XtC ad) yX6_readFold (.code yX6_readFold cX6_readFold 5 (some .boolean) :: Om) (rm_gq_ dp) 3 (W_X6_readFold dp ad)) (hg12 : jCN l D vwCl (tyC cy) cy ad ftC ksC (XtC ad) yX6_readFoldBody (.code yX6_readFoldBody cX6_readFoldBody 4 (some .boolean) :: Om) (rm_gq_ dp) 3 (W_X6_readFoldBody dp ad)) (hg13 : jCN l D vwCl (tyC cy) cy ad ftC ksC (XtC ad) yX6_readSet (.code yX6_readSet cX6_readSet 3 (some .boolean) :: Om) (rm_gq_ dp) 3 (W_X6_readSet dp ad)) (hg14 : jCN l D vwCl (tyC cy) cy ad ftC ksC (XtC ad) yX6_readWhere (.code yX6_readWhere cX6_readWhere 2 (some .boolean) :: Om) (rm_gq_ dp) 3 (W_X6_readWhere dp ad)) (hJ : jOk l D vwCl (tyC cy) cy ad ftC ksC (XtC ad) Om RX6 cX6_readP 3 3 (rm_gq_ (dp + 1)) Q J)  : ∀ (x1 : Int) (M : MM), ri_ x1 → w_X6_readP_b91 c (gq_ c dp) Q  x1 M → J 91 [(0, .ref (ad c)), (1, .int (Ii x1))] [] M := by
  intro x1 M gx1 hF
  unfold w_X6_readP_b91 at hF
  refine j_aload_n hJ dX6_readP_91 rfl 0 rfl ?_
  refine j_callVz hJ hg9 rfl om_663 ⟨rfl, rfl, by show _ ≤ _; simp only [rm_gq_]; omega, by show _ ≤ _; simp only [rm_gq_]; omega⟩ [] mv_X6_150 hd_X6_readAtomv (kG_0 hc) rfl rfl rfl (Nat.le_of_ble_eq_true rfl) dX6_readP_92 ⟨c, rfl, hc, hF⟩ (fun r1 M2 gr1 qM2 => ?_)
  have hF := qM2 gr1
  refine j_if_eq hJ 105 (jz_ri gr1) dX6_readP_95 (by decide) (fun z3 => ?_) (fun z3 => ?_)
  · have hF := hF.1 z3
    refine j_iconst hJ dX6_readP_105 ?_
    exact j_zret hJ rfl (by decide) dX6_readP_106 hF
  · have hF := hF.2 z3
    refine j_aload_n hJ dX6_readP_98 rfl 0 rfl ?_
    refine j_callVz hJ hg8 rfl om_667 ⟨rfl, rfl, by show _ ≤ _; simp only [rm_gq_]; omega, by show _ ≤ _; simp only [rm_gq_]; omega⟩ [] mv_X6_153 hd_X6_readTailv (kG_0 hc) rfl rfl rfl (Nat.le_of_ble_eq_true rfl) dX6_readP_99 ⟨c, rfl, hc, hF⟩ (fun r4 M5 gr4 qM5 => ?_)
    have hF := qM5 gr4
    refine j_if_ne hJ 107 (jz_ri gr4) dX6_readP_102 (by decide) (fun z6 => ?_) (fun z6 => ?_)
    · have hF := hF.1 z6
      exact j_sub hJ [0, 1] rfl (k_X6_readP_b107 hin hc hg0 hg1 hg2 hg3 hg4 hg5 hg6 hg7 hg8 hg9 hg10 hg11 hg12 hg13 hg14 hJ  x1 _ gx1 hF)
    · have hF := hF.2 z6
      refine j_iconst hJ dX6_readP_105 ?_
      exact j_zret hJ rfl (by decide) dX6_readP_106 hF
set_option maxHeartbeats 4000000 in
set_option maxRecDepth 100000 in
theorem k_X6_readP_b7 {l : Launch} {D : va_G} {cy : Nat → ClassId} {ad : Nat → Nat} {dp : Nat} {Q : Int → MM → Prop} {J : Nat → List (Nat × Value) → List Value → MM → Prop} (hin : jIn ad ksC.length) {c : Nat} (hc : isG c) (hg0 : jCN l D vwCl (tyC cy) cy ad ftC ksC (XtC ad) yX6_readE (.code yX6_readE cX6_readE 3 (some .boolean) :: Om) (rm_gq_ dp) 3 (W_X6_readE dp ad)) (hg1 : jCN l D vwCl (tyC cy) cy ad ftC ksC (XtC ad) yX6_readAnds (.code yX6_readAnds cX6_readAnds 3 (some .boolean) :: Om) (rm_gq_ dp) 3 (W_X6_readAnds dp ad)) (hg2 : jCN l D vwCl (tyC cy) cy ad ftC ksC (XtC ad) yX6_readNots (.code yX6_readNots cX6_readNots 3 (some .boolean) :: Om) (rm_gq_ dp) 3 (W_X6_readNots dp ad)) (hg3 : jCN l D vwCl (tyC cy) cy ad ftC ksC (XtC ad) yX6_readComparison (.code yX6_readComparison cX6_readComparison 2 (some .boolean) :: Om) (rm_gq_ dp) 3 (W_X6_readComparison dp ad)) (hg4 : jCN l D vwCl (tyC cy) cy ad ftC ksC (XtC ad) yX6_readSums (.code yX6_readSums cX6_readSums 3 (some .boolean) :: Om) (rm_gq_ dp) 3 (W_X6_readSums dp ad)) (hg5 : jCN l D vwCl (tyC cy) cy ad ftC ksC (XtC ad) yX6_readProducts (.code yX6_readProducts cX6_readProducts 3 (some .boolean) :: Om) (rm_gq_ dp) 3 (W_X6_readProducts dp ad)) (hg6 : jCN l D vwCl (tyC cy) cy ad ftC ksC (XtC ad) yX6_readSigned (.code yX6_readSigned cX6_readSigned 3 (some .boolean) :: Om) (rm_gq_ dp) 3 (W_X6_readSigned dp ad)) (hg7 : jCN l D vwCl (tyC cy) cy ad ftC ksC (XtC ad) yX6_readP (.code yX6_readP cX6_readP 3 (some .boolean) :: Om) (rm_gq_ dp) 3 (W_X6_readP dp ad)) (hg8 : jCN l D vwCl (tyC cy) cy ad ftC ksC (XtC ad) yX6_readTail (.code yX6_readTail cX6_readTail 3 (some .boolean) :: Om) (rm_gq_ dp) 3 (W_X6_readTail dp ad)) (hg9 : jCN l D vwCl (tyC cy) cy ad ftC ksC (XtC ad) yX6_readAtom (.code yX6_readAtom cX6_readAtom 1 (some .boolean) :: Om) (rm_gq_ dp) 3 (W_X6_readAtom dp ad)) (hg10 : jCN l D vwCl (tyC cy) cy ad ftC ksC (XtC ad) yX6_readInner (.code yX6_readInner cX6_readInner 1 (some .boolean) :: Om) (rm_gq_ dp) 3 (W_X6_readInner dp ad)) (hg11 : jCN l D vwCl (tyC cy) cy ad ftC ksC (XtC ad) yX6_readFold (.code yX6_readFold cX6_readFold 5 (some .boolean) :: Om) (rm_gq_ dp) 3 (W_X6_readFold dp ad)) (hg12 : jCN l D vwCl (tyC cy) cy ad ftC ksC (XtC ad) yX6_readFoldBody (.code yX6_readFoldBody cX6_readFoldBody 4 (some .boolean) :: Om) (rm_gq_ dp) 3 (W_X6_readFoldBody dp ad)) (hg13 : jCN l D vwCl (tyC cy) cy ad ftC ksC (XtC ad) yX6_readSet (.code yX6_readSet cX6_readSet 3 (some .boolean) :: Om) (rm_gq_ dp) 3 (W_X6_readSet dp ad)) (hg14 : jCN l D vwCl (tyC cy) cy ad ftC ksC (XtC ad) yX6_readWhere (.code yX6_readWhere cX6_readWhere 2 (some .boolean) :: Om) (rm_gq_ dp) 3 (W_X6_readWhere dp ad)) (hJ : jOk l D vwCl (tyC cy) cy ad ftC ksC (XtC ad) Om RX6 cX6_readP 3 3 (rm_gq_ (dp + 1)) Q J)  : ∀ (x1 x2 : Int) (M : MM), ri_ x1 → ri_ x2 → w_X6_readP_b7 c (gq_ c dp) Q  x1 x2 M → J 7 [(0, .ref (ad c)), (1, .int (Ii x1)), (2, .int (Ii x2))] [] M := by
  have H9 : ∀ (n : Nat) (x1 x2 : Int) (M : MM), ri_ x1 → ri_ x2 → jit (fun _ _ _ => False) (wb_X6_readP_b7 c (gq_ c dp) Q ) n x1 x2 M → J 7 [(0, .ref (ad c)), (1, .int (Ii x1)), (2, .int (Ii x2))] [] M := by
    intro n
    induction n with
    | zero => intro x1 x2 M gx1 gx2 hF; exact False.elim hF
    | succ n ih =>
    intro x1 x2 M gx1 gx2 hF
    have hF : wb_X6_readP_b7 c (gq_ c dp) Q  (jit (fun _ _ _ => False) (wb_X6_readP_b7 c (gq_ c dp) Q ) n) x1 x2 M := hF
    unfold wb_X6_readP_b7 at hF
    refine j_iload_n hJ dX6_readP_7 rfl 2 rfl ?_
    refine j_bipush hJ dX6_readP_8 (by decide) ?_
    refine j_icmp_gt hJ 91 gx2 rk_120 dX6_readP_10 (by decide) (fun z1 => ?_) (fun z1 => ?_)
    · have hF := hF.1 z1
      exact j_sub hJ [0, 1] rfl (k_X6_readP_b91 hin hc hg0 hg1 hg2 hg3 hg4 hg5 hg6 hg7 hg8 hg9 hg10 hg11 hg12 hg13 hg14 hJ  x1 _ gx1 hF)
    · have hF := hF.2 z1
      refine j_aload_n hJ dX6_readP_13 rfl 0 rfl ?_
      refine j_ga hJ (kG_0 hc) fC_9_0 fl_X6_9 dX6_readP_14 ?_
      refine j_gi hJ kC_1 fC_12_9 rfl fl_X6_45 dX6_readP_17 (fun v2 ev2 gv2 => ?_)
      have hF := hF v2 ev2 gv2
      refine j_bipush hJ dX6_readP_20 (by decide) ?_
      refine j_icmp_lt hJ 91 gv2 rk_50 dX6_readP_22 (by decide) (fun z3 => ?_) (fun z3 => ?_)
      · have hF := hF.1 z3
        exact j_sub hJ [0, 1] rfl (k_X6_readP_b91 hin hc hg0 hg1 hg2 hg3 hg4 hg5 hg6 hg7 hg8 hg9 hg10 hg11 hg12 hg13 hg14 hJ  x1 _ gx1 hF)
      · have hF := hF.2 z3
        refine j_aload_n hJ dX6_readP_25 rfl 0 rfl ?_
        refine j_ga hJ (kG_0 hc) fC_9_0 fl_X6_9 dX6_readP_26 ?_
        refine j_gi hJ kC_1 fC_12_9 rfl fl_X6_45 dX6_readP_29 (fun v4 ev4 gv4 => ?_)
        have hF := hF v4 ev4 gv4
        refine j_bipush hJ dX6_readP_32 (by decide) ?_
        refine j_icmp_gt hJ 91 gv4 rk_53 dX6_readP_34 (by decide) (fun z5 => ?_) (fun z5 => ?_)
        · have hF := hF.1 z5
          exact j_sub hJ [0, 1] rfl (k_X6_readP_b91 hin hc hg0 hg1 hg2 hg3 hg4 hg5 hg6 hg7 hg8 hg9 hg10 hg11 hg12 hg13 hg14 hJ  x1 _ gx1 hF)
        · have hF := hF.2 z5
          refine j_aload_n hJ dX6_readP_37 rfl 0 rfl ?_
          refine j_callVz hJ (c_X6_addNode (l := l) (D := D) (cy := cy) (ad := ad) hin) rfl om_618 ⟨rfl, rfl, by show _ ≤ _; simp only [rm_gq_]; omega, by show _ ≤ _; simp only [rm_gq_]; omega⟩ [] mv_X6_115 hd_X6_addNodev (kG_0 hc) rfl rfl rfl (Nat.le_of_ble_eq_true rfl) dX6_readP_38 ⟨c, rfl, hc, hF⟩ (fun r6 M7 gr6 qM7 => ?_)
          have hF := qM7 gr6
          refine j_if_ne hJ 46 (jz_ri gr6) dX6_readP_41 (by decide) (fun z8 => ?_) (fun z8 => ?_)
          · have hF := hF.1 z8
            refine j_aload_n hJ dX6_readP_46 rfl 0 rfl ?_
            refine j_gr (e := (c + 7)) hJ (kG_0 hc) fC_9_17 fl_X6_35 dX6_readP_47 rfl ?_
            refine j_aload_n hJ dX6_readP_50 rfl 0 rfl ?_
            refine j_gi hJ (kG_0 hc) fC_9_18 rfl fl_X6_99 dX6_readP_51 (fun v9 ev9 gv9 => ?_)
            have hF := hF v9 ev9 gv9
            refine j_bipush hJ dX6_readP_54 (by decide) ?_
            refine j_aload_n hJ dX6_readP_56 rfl 0 rfl ?_
            refine j_ga hJ (kG_0 hc) fC_9_0 fl_X6_9 dX6_readP_57 ?_
            refine j_gi hJ kC_1 fC_12_9 rfl fl_X6_45 dX6_readP_60 (fun v10 ev10 gv10 => ?_)
            have hF := hF v10 ev10 gv10
            refine j_iadd hJ dX6_readP_63 ?_
            have g11 := hF.1; have hF := hF.2
            refine j_bipush hJ dX6_readP_64 (by decide) ?_
            refine j_isub hJ dX6_readP_66 ?_
            have g12 := hF.1; have hF := hF.2
            refine j_iast hJ gv9 g12 (kG_7 hc) hF.1 hF.2.1 dX6_readP_67 (fun M13 eM13 => ?_)
            have hF := hF.2.2 M13 eM13
            refine j_aload_n hJ dX6_readP_68 rfl 0 rfl ?_
            refine j_dup hJ dX6_readP_69 rfl ?_
            refine j_gi hJ (kG_0 hc) fC_9_18 rfl fl_X6_99 dX6_readP_70 (fun v14 ev14 gv14 => ?_)
            have hF := hF v14 ev14 gv14
            refine j_iconst hJ dX6_readP_73 ?_
            refine j_iadd hJ dX6_readP_74 ?_
            have g15 := hF.1; have hF := hF.2
            refine j_pi hJ g15 (kG_0 hc) fC_9_18 rfl fp_X6_99 dX6_readP_75 (fun M16 eM16 => ?_)
            have hF := hF M16 eM16
            refine j_aload_n hJ dX6_readP_78 rfl 0 rfl ?_
            refine j_ga hJ (kG_0 hc) fC_9_0 fl_X6_9 dX6_readP_79 ?_
            refine j_callVv hJ (c_X9_nextWord (l := l) (D := D) (cy := cy) (ad := ad) hin) rfl om_597 ⟨rfl, rfl, by show _ ≤ _; simp only [rm_gq_]; omega, by show _ ≤ _; simp only [rm_gq_]; omega⟩ [] mv_X6_69 hd_X9_nextWordv kC_1 rfl rfl rfl (Nat.le_of_ble_eq_true rfl) dX6_readP_82 ⟨rfl, hF⟩ (fun M18 qM18 => ?_)
            have hF := qM18
            refine j_iinc (lv' := [(2, .int (Ii (x2 + 1))), (0, .ref (ad c)), (1, .int (Ii x1))]) (k := 2) hJ dX6_readP_85 rfl (by decide) rfl ?_
            have g19 := hF.1; have hF := hF.2
            refine j_goto hJ 7 dX6_readP_88 (by decide) ?_
            exact j_sub hJ [1, 2, 0] rfl (ih x1 (x2 + 1) _ gx1 g19 hF)
          · have hF := hF.2 z8
            refine j_iconst hJ dX6_readP_44 ?_
            exact j_zret hJ rfl (by decide) dX6_readP_45 hF
  intro x1 x2 M gx1 gx2 hF
  obtain ⟨n, hF⟩ := hF
  exact H9 n x1 x2 M gx1 gx2 hF
set_option maxHeartbeats 4000000 in
set_option maxRecDepth 100000 in
theorem s_X6_readP {l : Launch} {D : va_G} {cy : Nat → ClassId} {ad : Nat → Nat} {dp : Nat} (hin : jIn ad ksC.length) (hg0 : jCN l D vwCl (tyC cy) cy ad ftC ksC (XtC ad) yX6_readE (.code yX6_readE cX6_readE 3 (some .boolean) :: Om) (rm_gq_ dp) 3 (W_X6_readE dp ad)) (hg1 : jCN l D vwCl (tyC cy) cy ad ftC ksC (XtC ad) yX6_readAnds (.code yX6_readAnds cX6_readAnds 3 (some .boolean) :: Om) (rm_gq_ dp) 3 (W_X6_readAnds dp ad)) (hg2 : jCN l D vwCl (tyC cy) cy ad ftC ksC (XtC ad) yX6_readNots (.code yX6_readNots cX6_readNots 3 (some .boolean) :: Om) (rm_gq_ dp) 3 (W_X6_readNots dp ad)) (hg3 : jCN l D vwCl (tyC cy) cy ad ftC ksC (XtC ad) yX6_readComparison (.code yX6_readComparison cX6_readComparison 2 (some .boolean) :: Om) (rm_gq_ dp) 3 (W_X6_readComparison dp ad)) (hg4 : jCN l D vwCl (tyC cy) cy ad ftC ksC (XtC ad) yX6_readSums (.code yX6_readSums cX6_readSums 3 (some .boolean) :: Om) (rm_gq_ dp) 3 (W_X6_readSums dp ad)) (hg5 : jCN l D vwCl (tyC cy) cy ad ftC ksC (XtC ad) yX6_readProducts (.code yX6_readProducts cX6_readProducts 3 (some .boolean) :: Om) (rm_gq_ dp) 3 (W_X6_readProducts dp ad)) (hg6 : jCN l D vwCl (tyC cy) cy ad ftC ksC (XtC ad) yX6_readSigned (.code yX6_readSigned cX6_readSigned 3 (some .boolean) :: Om) (rm_gq_ dp) 3 (W_X6_readSigned dp ad)) (hg7 : jCN l D vwCl (tyC cy) cy ad ftC ksC (XtC ad) yX6_readP (.code yX6_readP cX6_readP 3 (some .boolean) :: Om) (rm_gq_ dp) 3 (W_X6_readP dp ad)) (hg8 : jCN l D vwCl (tyC cy) cy ad ftC ksC (XtC ad) yX6_readTail (.code yX6_readTail cX6_readTail 3 (some .boolean) :: Om) (rm_gq_ dp) 3 (W_X6_readTail dp ad)) (hg9 : jCN l D vwCl (tyC cy) cy ad ftC ksC (XtC ad) yX6_readAtom (.code yX6_readAtom cX6_readAtom 1 (some .boolean) :: Om) (rm_gq_ dp) 3 (W_X6_readAtom dp ad)) (hg10 : jCN l D vwCl (tyC cy) cy ad ftC ksC (XtC ad) yX6_readInner (.code yX6_readInner cX6_readInner 1 (some .boolean) :: Om) (rm_gq_ dp) 3 (W_X6_readInner dp ad)) (hg11 : jCN l D vwCl (tyC cy) cy ad ftC ksC (XtC ad) yX6_readFold (.code yX6_readFold cX6_readFold 5 (some .boolean) :: Om) (rm_gq_ dp) 3 (W_X6_readFold dp ad)) (hg12 : jCN l D vwCl (tyC cy) cy ad ftC ksC (XtC ad) yX6_readFoldBody (.code yX6_readFoldBody cX6_readFoldBody 4 (some .boolean) :: Om) (rm_gq_ dp) 3 (W_X6_readFoldBody dp ad)) (hg13 : jCN l D vwCl (tyC cy) cy ad ftC ksC (XtC ad) yX6_readSet (.code yX6_readSet cX6_readSet 3 (some .boolean) :: Om) (rm_gq_ dp) 3 (W_X6_readSet dp ad)) (hg14 : jCN l D vwCl (tyC cy) cy ad ftC ksC (XtC ad) yX6_readWhere (.code yX6_readWhere cX6_readWhere 2 (some .boolean) :: Om) (rm_gq_ dp) 3 (W_X6_readWhere dp ad)) : jCN l D vwCl (tyC cy) cy ad ftC ksC (XtC ad) yX6_readP (.code yX6_readP cX6_readP 3 (some .boolean) :: Om) (rm_gq_ (dp + 1)) 3 (W_X6_readP (dp + 1) ad) := by
  refine jCN_of (y := yX6_readP) (cc := cX6_readP) (nL := 3) (rk := 3) (rm := (rm_gq_ (dp + 1))) (own := RX6) (tyC_ok cy) hin (XtC_ok ad) Om_good (by decide) rfl ?_
  intro Q av M hF
  obtain ⟨c, rfl, hc, hF⟩ := hF
  refine ⟨Nat.le_of_ble_eq_true rfl, fun J hJ => ?_⟩
  show J 0 [(0, .ref (ad c))] [] M
  have hF : b_X6_readP c (gq_ c dp) Q  M := hF
  unfold b_X6_readP at hF
  refine j_aload_n hJ dX6_readP_0 rfl 0 rfl ?_
  refine j_gi hJ (kG_0 hc) fC_9_18 rfl fl_X6_99 dX6_readP_1 (fun v1 ev1 gv1 => ?_)
  have hF := hF v1 ev1 gv1
  refine j_istore_n (lv' := [(1, .int (Ii v1)), (0, .ref (ad c))]) hJ dX6_readP_4 rfl (by decide) rfl ?_
  refine j_iconst hJ dX6_readP_5 ?_
  refine j_istore_n (lv' := [(2, .int (Ii 0)), (1, .int (Ii v1)), (0, .ref (ad c))]) hJ dX6_readP_6 rfl (by decide) rfl ?_
  exact j_sub hJ [2, 1, 0] rfl (k_X6_readP_b7 hin hc hg0 hg1 hg2 hg3 hg4 hg5 hg6 hg7 hg8 hg9 hg10 hg11 hg12 hg13 hg14 hJ  v1 0 _ gv1 rk_0 hF)
set_option maxHeartbeats 4000000 in
set_option maxRecDepth 100000 in
theorem k_X6_readTail_b145 {l : Launch} {D : va_G} {cy : Nat → ClassId} {ad : Nat → Nat} {dp : Nat} {Q : Int → MM → Prop} {J : Nat → List (Nat × Value) → List Value → MM → Prop} (hin : jIn ad ksC.length) {c : Nat} (hc : isG c) (hg0 : jCN l D vwCl (tyC cy) cy ad ftC ksC (XtC ad) yX6_readE (.code yX6_readE cX6_readE 3 (some .boolean) :: Om) (rm_gq_ dp) 3 (W_X6_readE dp ad)) (hg1 : jCN l D vwCl (tyC cy) cy ad ftC ksC (XtC ad) yX6_readAnds (.code yX6_readAnds cX6_readAnds 3 (some .boolean) :: Om) (rm_gq_ dp) 3 (W_X6_readAnds dp ad)) (hg2 : jCN l D vwCl (tyC cy) cy ad ftC ksC (XtC ad) yX6_readNots (.code yX6_readNots cX6_readNots 3 (some .boolean) :: Om) (rm_gq_ dp) 3 (W_X6_readNots dp ad)) (hg3 : jCN l D vwCl (tyC cy) cy ad ftC ksC (XtC ad) yX6_readComparison (.code yX6_readComparison cX6_readComparison 2 (some .boolean) :: Om) (rm_gq_ dp) 3 (W_X6_readComparison dp ad)) (hg4 : jCN l D vwCl (tyC cy) cy ad ftC ksC (XtC ad) yX6_readSums (.code yX6_readSums cX6_readSums 3 (some .boolean) :: Om) (rm_gq_ dp) 3 (W_X6_readSums dp ad)) (hg5 : jCN l D vwCl (tyC cy) cy ad ftC ksC (XtC ad) yX6_readProducts (.code yX6_readProducts cX6_readProducts 3 (some .boolean) :: Om) (rm_gq_ dp) 3 (W_X6_readProducts dp ad)) (hg6 : jCN l D vwCl (tyC cy) cy ad ftC ksC (XtC ad) yX6_readSigned (.code yX6_readSigned cX6_readSigned 3 (some .boolean) :: Om) (rm_gq_ dp) 3 (W_X6_readSigned dp ad)) (hg7 : jCN l D vwCl (tyC cy) cy ad ftC ksC (XtC ad) yX6_readP (.code yX6_readP cX6_readP 3 (some .boolean) :: Om) (rm_gq_ dp) 3 (W_X6_readP dp ad)) (hg8 : jCN l D vwCl (tyC cy) cy ad ftC ksC (XtC ad) yX6_readTail (.code yX6_readTail cX6_readTail 3 (some .boolean) :: Om) (rm_gq_ dp) 3 (W_X6_readTail dp ad)) (hg9 : jCN l D vwCl (tyC cy) cy ad ftC ksC (XtC ad) yX6_readAtom (.code yX6_readAtom cX6_readAtom 1 (some .boolean) :: Om) (rm_gq_ dp) 3 (W_X6_readAtom dp ad)) (hg10 : jCN l D vwCl (tyC cy) cy ad ftC ksC (XtC ad) yX6_readInner (.code yX6_readInner cX6_readInner 1 (some .boolean) :: Om) (rm_gq_ dp) 3 (W_X6_readInner dp ad)) (hg11 : jCN l D vwCl (tyC cy) cy ad ftC ksC (XtC ad) yX6_readFold (.code yX6_readFold cX6_readFold 5 (some .boolean) :: Om) (rm_gq_ dp) 3 (W_X6_readFold dp ad)) (hg12 : jCN l D vwCl (tyC cy) cy ad ftC ksC (XtC ad) yX6_readFoldBody (.code yX6_readFoldBody cX6_readFoldBody 4 (some .boolean) :: Om) (rm_gq_ dp) 3 (W_X6_readFoldBody dp ad)) (hg13 : jCN l D vwCl (tyC cy) cy ad ftC ksC (XtC ad) yX6_readSet (.code yX6_readSet cX6_readSet 3 (some .boolean) :: Om) (rm_gq_ dp) 3 (W_X6_readSet dp ad)) (hg14 : jCN l D vwCl (tyC cy) cy ad ftC ksC (XtC ad) yX6_readWhere (.code yX6_readWhere cX6_readWhere 2 (some .boolean) :: Om) (rm_gq_ dp) 3 (W_X6_readWhere dp ad)) (hJ : jOk l D vwCl (tyC cy) cy ad ftC ksC (XtC ad) Om RX6 cX6_readTail 3 3 (rm_gq_ (dp + 1)) Q J) {K2 : Int → MM → Prop} (hK2 : ∀ (x1 : Int) (M : MM), ri_ x1 → K2 x1 M → J 2 [(0, .ref (ad c)), (1, .int (Ii x1))] [] M) : ∀ (x1 : Int) (M : MM), ri_ x1 → w_X6_readTail_b145 c (gq_ c dp) Q K2 x1 M → J 145 [(0, .ref (ad c)), (1, .int (Ii x1))] [] M := by
  intro x1 M gx1 hF
  unfold w_X6_readTail_b145 at hF
  refine j_iinc (lv' := [(1, .int (Ii (x1 + 1))), (0, .ref (ad c))]) (k := 1) hJ dX6_readTail_145 rfl (by decide) rfl ?_
  have g1 := hF.1; have hF := hF.2
  refine j_goto hJ 2 dX6_readTail_148 (by decide) ?_
  exact j_sub hJ [1, 0] rfl (hK2 (x1 + 1) _ g1 hF)
set_option maxHeartbeats 4000000 in
set_option maxRecDepth 100000 in
theorem k_X6_readTail_b70 {l : Launch} {D : va_G} {cy : Nat → ClassId} {ad : Nat → Nat} {dp : Nat} {Q : Int → MM → Prop} {J : Nat → List (Nat × Value) → List Value → MM → Prop} (hin : jIn ad ksC.length) {c : Nat} (hc : isG c) (hg0 : jCN l D vwCl (tyC cy) cy ad ftC ksC (XtC ad) yX6_readE (.code yX6_readE cX6_readE 3 (some .boolean) :: Om) (rm_gq_ dp) 3 (W_X6_readE dp ad)) (hg1 : jCN l D vwCl (tyC cy) cy ad ftC ksC (XtC ad) yX6_readAnds (.code yX6_readAnds cX6_readAnds 3 (some .boolean) :: Om) (rm_gq_ dp) 3 (W_X6_readAnds dp ad)) (hg2 : jCN l D vwCl (tyC cy) cy ad ftC ksC (XtC ad) yX6_readNots (.code yX6_readNots cX6_readNots 3 (some .boolean) :: Om) (rm_gq_ dp) 3 (W_X6_readNots dp ad)) (hg3 : jCN l D vwCl (tyC cy) cy ad ftC ksC (XtC ad) yX6_readComparison (.code yX6_readComparison cX6_readComparison 2 (some .boolean) :: Om) (rm_gq_ dp) 3 (W_X6_readComparison dp ad)) (hg4 : jCN l D vwCl (tyC cy) cy ad ftC ksC (XtC ad) yX6_readSums (.code yX6_readSums cX6_readSums 3 (some .boolean) :: Om) (rm_gq_ dp) 3 (W_X6_readSums dp ad)) (hg5 : jCN l D vwCl (tyC cy) cy ad ftC ksC (XtC ad) yX6_readProducts (.code yX6_readProducts cX6_readProducts 3 (some .boolean) :: Om) (rm_gq_ dp) 3 (W_X6_readProducts dp ad)) (hg6 : jCN l D vwCl (tyC cy) cy ad ftC ksC (XtC ad) yX6_readSigned (.code yX6_readSigned cX6_readSigned 3 (some .boolean) :: Om) (rm_gq_ dp) 3 (W_X6_readSigned dp ad)) (hg7 : jCN l D vwCl (tyC cy) cy ad ftC ksC (XtC ad) yX6_readP (.code yX6_readP cX6_readP 3 (some .boolean) :: Om) (rm_gq_ dp) 3 (W_X6_readP dp ad)) (hg8 : jCN l D vwCl (tyC cy) cy ad ftC ksC (XtC ad) yX6_readTail (.code yX6_readTail cX6_readTail 3 (some .boolean) :: Om) (rm_gq_ dp) 3 (W_X6_readTail dp ad)) (hg9 : jCN l D vwCl (tyC cy) cy ad ftC ksC (XtC ad) yX6_readAtom (.code yX6_readAtom cX6_readAtom 1 (some .boolean) :: Om) (rm_gq_ dp) 3 (W_X6_readAtom dp ad)) (hg10 : jCN l D vwCl (tyC cy) cy ad ftC ksC (XtC ad) yX6_readInner (.code yX6_readInner cX6_readInner 1 (some .boolean) :: Om) (rm_gq_ dp) 3 (W_X6_readInner dp ad)) (hg11 : jCN l D vwCl (tyC cy) cy ad ftC ksC (XtC ad) yX6_readFold (.code yX6_readFold cX6_readFold 5 (some .boolean) :: Om) (rm_gq_ dp) 3 (W_X6_readFold dp ad)) (hg12 : jCN l D vwCl (tyC cy) cy ad ftC ksC (XtC ad) yX6_readFoldBody (.code yX6_readFoldBody cX6_readFoldBody 4 (some .boolean) :: Om) (rm_gq_ dp) 3 (W_X6_readFoldBody dp ad)) (hg13 : jCN l D vwCl (tyC cy) cy ad ftC ksC (XtC ad) yX6_readSet (.code yX6_readSet cX6_readSet 3 (some .boolean) :: Om) (rm_gq_ dp) 3 (W_X6_readSet dp ad)) (hg14 : jCN l D vwCl (tyC cy) cy ad ftC ksC (XtC ad) yX6_readWhere (.code yX6_readWhere cX6_readWhere 2 (some .boolean) :: Om) (rm_gq_ dp) 3 (W_X6_readWhere dp ad)) (hJ : jOk l D vwCl (tyC cy) cy ad ftC ksC (XtC ad) Om RX6 cX6_readTail 3 3 (rm_gq_ (dp + 1)) Q J) {K2 : Int → MM → Prop} (hK2 : ∀ (x1 : Int) (M : MM), ri_ x1 → K2 x1 M → J 2 [(0, .ref (ad c)), (1, .int (Ii x1))] [] M) : ∀ (x1 x2 : Int) (M : MM), ri_ x1 → ri_ x2 → w_X6_readTail_b70 c (gq_ c dp) Q K2 x1 x2 M → J 70 [(0, .ref (ad c)), (1, .int (Ii x1)), (2, .int (Ii x2))] [] M := by
  intro x1 x2 M gx1 gx2 hF
  unfold w_X6_readTail_b70 at hF
  refine j_aload_n hJ dX6_readTail_70 rfl 0 rfl ?_
  refine j_ga hJ (kG_0 hc) fC_9_0 fl_X6_9 dX6_readTail_71 ?_
  refine j_callVv hJ (c_X9_nextWord (l := l) (D := D) (cy := cy) (ad := ad) hin) rfl om_597 ⟨rfl, rfl, by show _ ≤ _; simp only [rm_gq_]; omega, by show _ ≤ _; simp only [rm_gq_]; omega⟩ [] mv_X6_69 hd_X9_nextWordv kC_1 rfl rfl rfl (Nat.le_of_ble_eq_true rfl) dX6_readTail_74 ⟨rfl, hF⟩ (fun M2 qM2 => ?_)
  have hF := qM2
  refine j_iload_n hJ dX6_readTail_77 rfl 2 rfl ?_
  refine j_if_ne hJ 107 gx2 dX6_readTail_78 (by decide) (fun z3 => ?_) (fun z3 => ?_)
  · have hF := hF.1 z3
    refine j_aload_n hJ dX6_readTail_107 rfl 0 rfl ?_
    refine j_callVz hJ hg0 rfl om_671 ⟨rfl, rfl, by show _ ≤ _; simp only [rm_gq_]; omega, by show _ ≤ _; simp only [rm_gq_]; omega⟩ [] mv_X6_41 hd_X6_readEv (kG_0 hc) rfl rfl rfl (Nat.le_of_ble_eq_true rfl) dX6_readTail_108 ⟨c, rfl, hc, hF⟩ (fun r4 M5 gr4 qM5 => ?_)
    have hF := qM5 gr4
    refine j_if_eq hJ 123 (jz_ri gr4) dX6_readTail_111 (by decide) (fun z6 => ?_) (fun z6 => ?_)
    · have hF := hF.1 z6
      refine j_iconst hJ dX6_readTail_123 ?_
      exact j_zret hJ rfl (by decide) dX6_readTail_124 hF
    · have hF := hF.2 z6
      refine j_aload_n hJ dX6_readTail_114 rfl 0 rfl ?_
      refine j_bipush hJ dX6_readTail_115 (by decide) ?_
      refine j_callVz hJ (c_X6_pass (l := l) (D := D) (cy := cy) (ad := ad) hin) rfl om_647 ⟨rfl, rfl, by show _ ≤ _; simp only [rm_gq_]; omega, by show _ ≤ _; simp only [rm_gq_]; omega⟩ [.int (Ii 7)] mv_X6_122 hd_X6_passv (kG_0 hc) rfl rfl rfl (Nat.le_of_ble_eq_true rfl) dX6_readTail_117 ⟨c, 7, rfl, hc, rk_7, hF⟩ (fun r7 M8 gr7 qM8 => ?_)
      have hF := qM8 gr7
      refine j_if_ne hJ 125 (jz_ri gr7) dX6_readTail_120 (by decide) (fun z9 => ?_) (fun z9 => ?_)
      · have hF := hF.1 z9
        refine j_aload_n hJ dX6_readTail_125 rfl 0 rfl ?_
        refine j_dup hJ dX6_readTail_126 rfl ?_
        refine j_gi hJ (kG_0 hc) fC_9_11 rfl fl_X6_90 dX6_readTail_127 (fun v10 ev10 gv10 => ?_)
        have hF := hF v10 ev10 gv10
        refine j_iconst hJ dX6_readTail_130 ?_
        refine j_isub hJ dX6_readTail_131 ?_
        have g11 := hF.1; have hF := hF.2
        refine j_pi hJ g11 (kG_0 hc) fC_9_11 rfl fp_X6_90 dX6_readTail_132 (fun M12 eM12 => ?_)
        have hF := hF M12 eM12
        refine j_aload_n hJ dX6_readTail_135 rfl 0 rfl ?_
        refine j_bipush hJ dX6_readTail_136 (by decide) ?_
        refine j_iconst hJ dX6_readTail_138 ?_
        refine j_iconst hJ dX6_readTail_139 ?_
        refine j_lconst (x := 0) hJ dX6_readTail_140 rfl ?_
        refine j_callVi hJ (c_X6_emit (l := l) (D := D) (cy := cy) (ad := ad) hin) rfl om_623 ⟨rfl, rfl, by show _ ≤ _; simp only [rm_gq_]; omega, by show _ ≤ _; simp only [rm_gq_]; omega⟩ [.int (Ii 15), .int (Ii 0), .int (Ii 0), .long (Ll 0)] mv_X6_58 hd_X6_emitv (kG_0 hc) rfl rfl rfl (Nat.le_of_ble_eq_true rfl) dX6_readTail_141 ⟨c, 15, 0, 0, 0, rfl, hc, rk_15, rk_0, rk_0, lkm_0, hF⟩ (fun r13 M14 gr13 qM14 => ?_)
        have hF := qM14 gr13
        refine j_pop hJ dX6_readTail_144 rfl ?_
        exact j_sub hJ [0, 1] rfl (k_X6_readTail_b145 hin hc hg0 hg1 hg2 hg3 hg4 hg5 hg6 hg7 hg8 hg9 hg10 hg11 hg12 hg13 hg14 hJ hK2 x1 _ gx1 hF)
      · have hF := hF.2 z9
        refine j_iconst hJ dX6_readTail_123 ?_
        exact j_zret hJ rfl (by decide) dX6_readTail_124 hF
  · have hF := hF.2 z3
    refine j_aload_n hJ dX6_readTail_81 rfl 0 rfl ?_
    refine j_bipush hJ dX6_readTail_82 (by decide) ?_
    refine j_iconst hJ dX6_readTail_84 ?_
    refine j_iconst hJ dX6_readTail_85 ?_
    refine j_aload_n hJ dX6_readTail_86 rfl 0 rfl ?_
    refine j_ga hJ (kG_0 hc) fC_9_0 fl_X6_9 dX6_readTail_87 ?_
    refine j_gl hJ kC_1 fC_12_11 rfl fl_X6_118 dX6_readTail_90 (fun v15 ev15 gv15 => ?_)
    have hF := hF v15 ev15 gv15
    refine j_callVi hJ (c_X6_emit (l := l) (D := D) (cy := cy) (ad := ad) hin) rfl om_623 ⟨rfl, rfl, by show _ ≤ _; simp only [rm_gq_]; omega, by show _ ≤ _; simp only [rm_gq_]; omega⟩ [.int (Ii 11), .int (Ii 0), .int (Ii 0), .long (Ll v15)] mv_X6_58 hd_X6_emitv (kG_0 hc) rfl rfl rfl (Nat.le_of_ble_eq_true rfl) dX6_readTail_93 ⟨c, 11, 0, 0, v15, rfl, hc, rk_11, rk_0, rk_0, gv15, hF⟩ (fun r16 M17 gr16 qM17 => ?_)
    have hF := qM17 gr16
    refine j_pop hJ dX6_readTail_96 rfl ?_
    refine j_aload_n hJ dX6_readTail_97 rfl 0 rfl ?_
    refine j_iconst hJ dX6_readTail_98 ?_
    refine j_callVz hJ (c_X6_pass (l := l) (D := D) (cy := cy) (ad := ad) hin) rfl om_647 ⟨rfl, rfl, by show _ ≤ _; simp only [rm_gq_]; omega, by show _ ≤ _; simp only [rm_gq_]; omega⟩ [.int (Ii 2)] mv_X6_122 hd_X6_passv (kG_0 hc) rfl rfl rfl (Nat.le_of_ble_eq_true rfl) dX6_readTail_99 ⟨c, 2, rfl, hc, rk_2, hF⟩ (fun r18 M19 gr18 qM19 => ?_)
    have hF := qM19 gr18
    refine j_if_ne hJ 145 (jz_ri gr18) dX6_readTail_102 (by decide) (fun z20 => ?_) (fun z20 => ?_)
    · have hF := hF.1 z20
      exact j_sub hJ [0, 1] rfl (k_X6_readTail_b145 hin hc hg0 hg1 hg2 hg3 hg4 hg5 hg6 hg7 hg8 hg9 hg10 hg11 hg12 hg13 hg14 hJ hK2 x1 _ gx1 hF)
    · have hF := hF.2 z20
      refine j_iconst hJ dX6_readTail_105 ?_
      exact j_zret hJ rfl (by decide) dX6_readTail_106 hF
set_option maxHeartbeats 4000000 in
set_option maxRecDepth 100000 in
theorem k_X6_readTail_b49 {l : Launch} {D : va_G} {cy : Nat → ClassId} {ad : Nat → Nat} {dp : Nat} {Q : Int → MM → Prop} {J : Nat → List (Nat × Value) → List Value → MM → Prop} (hin : jIn ad ksC.length) {c : Nat} (hc : isG c) (hg0 : jCN l D vwCl (tyC cy) cy ad ftC ksC (XtC ad) yX6_readE (.code yX6_readE cX6_readE 3 (some .boolean) :: Om) (rm_gq_ dp) 3 (W_X6_readE dp ad)) (hg1 : jCN l D vwCl (tyC cy) cy ad ftC ksC (XtC ad) yX6_readAnds (.code yX6_readAnds cX6_readAnds 3 (some .boolean) :: Om) (rm_gq_ dp) 3 (W_X6_readAnds dp ad)) (hg2 : jCN l D vwCl (tyC cy) cy ad ftC ksC (XtC ad) yX6_readNots (.code yX6_readNots cX6_readNots 3 (some .boolean) :: Om) (rm_gq_ dp) 3 (W_X6_readNots dp ad)) (hg3 : jCN l D vwCl (tyC cy) cy ad ftC ksC (XtC ad) yX6_readComparison (.code yX6_readComparison cX6_readComparison 2 (some .boolean) :: Om) (rm_gq_ dp) 3 (W_X6_readComparison dp ad)) (hg4 : jCN l D vwCl (tyC cy) cy ad ftC ksC (XtC ad) yX6_readSums (.code yX6_readSums cX6_readSums 3 (some .boolean) :: Om) (rm_gq_ dp) 3 (W_X6_readSums dp ad)) (hg5 : jCN l D vwCl (tyC cy) cy ad ftC ksC (XtC ad) yX6_readProducts (.code yX6_readProducts cX6_readProducts 3 (some .boolean) :: Om) (rm_gq_ dp) 3 (W_X6_readProducts dp ad)) (hg6 : jCN l D vwCl (tyC cy) cy ad ftC ksC (XtC ad) yX6_readSigned (.code yX6_readSigned cX6_readSigned 3 (some .boolean) :: Om) (rm_gq_ dp) 3 (W_X6_readSigned dp ad)) (hg7 : jCN l D vwCl (tyC cy) cy ad ftC ksC (XtC ad) yX6_readP (.code yX6_readP cX6_readP 3 (some .boolean) :: Om) (rm_gq_ dp) 3 (W_X6_readP dp ad)) (hg8 : jCN l D vwCl (tyC cy) cy ad ftC ksC (XtC ad) yX6_readTail (.code yX6_readTail cX6_readTail 3 (some .boolean) :: Om) (rm_gq_ dp) 3 (W_X6_readTail dp ad)) (hg9 : jCN l D vwCl (tyC cy) cy ad ftC ksC (XtC ad) yX6_readAtom (.code yX6_readAtom cX6_readAtom 1 (some .boolean) :: Om) (rm_gq_ dp) 3 (W_X6_readAtom dp ad)) (hg10 : jCN l D vwCl (tyC cy) cy ad ftC ksC (XtC ad) yX6_readInner (.code yX6_readInner cX6_readInner 1 (some .boolean) :: Om) (rm_gq_ dp) 3 (W_X6_readInner dp ad)) (hg11 : jCN l D vwCl (tyC cy) cy ad ftC ksC (XtC ad) yX6_readFold (.code yX6_readFold cX6_readFold 5 (some .boolean) :: Om) (rm_gq_ dp) 3 (W_X6_readFold dp ad)) (hg12 : jCN l D vwCl (tyC cy) cy ad ftC ksC (XtC ad) yX6_readFoldBody (.code yX6_readFoldBody cX6_readFoldBody 4 (some .boolean) :: Om) (rm_gq_ dp) 3 (W_X6_readFoldBody dp ad)) (hg13 : jCN l D vwCl (tyC cy) cy ad ftC ksC (XtC ad) yX6_readSet (.code yX6_readSet cX6_readSet 3 (some .boolean) :: Om) (rm_gq_ dp) 3 (W_X6_readSet dp ad)) (hg14 : jCN l D vwCl (tyC cy) cy ad ftC ksC (XtC ad) yX6_readWhere (.code yX6_readWhere cX6_readWhere 2 (some .boolean) :: Om) (rm_gq_ dp) 3 (W_X6_readWhere dp ad)) (hJ : jOk l D vwCl (tyC cy) cy ad ftC ksC (XtC ad) Om RX6 cX6_readTail 3 3 (rm_gq_ (dp + 1)) Q J) {K2 : Int → MM → Prop} (hK2 : ∀ (x1 : Int) (M : MM), ri_ x1 → K2 x1 M → J 2 [(0, .ref (ad c)), (1, .int (Ii x1))] [] M) : ∀ (x1 s0 : Int) (M : MM), ri_ x1 → ri_ s0 → w_X6_readTail_b49 c (gq_ c dp) Q K2 x1 s0 M → J 49 [(0, .ref (ad c)), (1, .int (Ii x1))] [.int (Ii s0)] M := by
  intro x1 s0 M gx1 gs0 hF
  unfold w_X6_readTail_b49 at hF
  refine j_istore_n (lv' := [(2, .int (Ii s0)), (0, .ref (ad c)), (1, .int (Ii x1))]) hJ dX6_readTail_49 rfl (by decide) rfl ?_
  refine j_aload_n hJ dX6_readTail_50 rfl 1 rfl ?_
  refine j_callVz hJ (c_X6_addNode (l := l) (D := D) (cy := cy) (ad := ad) hin) rfl om_618 ⟨rfl, rfl, by show _ ≤ _; simp only [rm_gq_]; omega, by show _ ≤ _; simp only [rm_gq_]; omega⟩ [] mv_X6_115 hd_X6_addNodev (kG_0 hc) rfl rfl rfl (Nat.le_of_ble_eq_true rfl) dX6_readTail_51 ⟨c, rfl, hc, hF⟩ (fun r1 M2 gr1 qM2 => ?_)
  have hF := qM2 gr1
  refine j_if_eq hJ 68 (jz_ri gr1) dX6_readTail_54 (by decide) (fun z3 => ?_) (fun z3 => ?_)
  · have hF := hF.1 z3
    refine j_iconst hJ dX6_readTail_68 ?_
    exact j_zret hJ rfl (by decide) dX6_readTail_69 hF
  · have hF := hF.2 z3
    refine j_iload_n hJ dX6_readTail_57 rfl 0 rfl ?_
    refine j_if_eq hJ 70 gs0 dX6_readTail_58 (by decide) (fun z4 => ?_) (fun z4 => ?_)
    · have hF := hF.1 z4
      exact j_sub hJ [1, 2, 0] rfl (k_X6_readTail_b70 hin hc hg0 hg1 hg2 hg3 hg4 hg5 hg6 hg7 hg8 hg9 hg10 hg11 hg12 hg13 hg14 hJ hK2 x1 s0 _ gx1 gs0 hF)
    · have hF := hF.2 z4
      refine j_aload_n hJ dX6_readTail_61 rfl 1 rfl ?_
      refine j_callVz hJ (c_X6_addNest (l := l) (D := D) (cy := cy) (ad := ad) hin) rfl om_675 ⟨rfl, rfl, by show _ ≤ _; simp only [rm_gq_]; omega, by show _ ≤ _; simp only [rm_gq_]; omega⟩ [] mv_X6_156 hd_X6_addNestv (kG_0 hc) rfl rfl rfl (Nat.le_of_ble_eq_true rfl) dX6_readTail_62 ⟨c, rfl, hc, hF⟩ (fun r5 M6 gr5 qM6 => ?_)
      have hF := qM6 gr5
      refine j_if_ne hJ 70 (jz_ri gr5) dX6_readTail_65 (by decide) (fun z7 => ?_) (fun z7 => ?_)
      · have hF := hF.1 z7
        exact j_sub hJ [1, 2, 0] rfl (k_X6_readTail_b70 hin hc hg0 hg1 hg2 hg3 hg4 hg5 hg6 hg7 hg8 hg9 hg10 hg11 hg12 hg13 hg14 hJ hK2 x1 s0 _ gx1 gs0 hF)
      · have hF := hF.2 z7
        refine j_iconst hJ dX6_readTail_68 ?_
        exact j_zret hJ rfl (by decide) dX6_readTail_69 hF
set_option maxHeartbeats 4000000 in
set_option maxRecDepth 100000 in
theorem k_X6_readTail_b32 {l : Launch} {D : va_G} {cy : Nat → ClassId} {ad : Nat → Nat} {dp : Nat} {Q : Int → MM → Prop} {J : Nat → List (Nat × Value) → List Value → MM → Prop} (hin : jIn ad ksC.length) {c : Nat} (hc : isG c) (hg0 : jCN l D vwCl (tyC cy) cy ad ftC ksC (XtC ad) yX6_readE (.code yX6_readE cX6_readE 3 (some .boolean) :: Om) (rm_gq_ dp) 3 (W_X6_readE dp ad)) (hg1 : jCN l D vwCl (tyC cy) cy ad ftC ksC (XtC ad) yX6_readAnds (.code yX6_readAnds cX6_readAnds 3 (some .boolean) :: Om) (rm_gq_ dp) 3 (W_X6_readAnds dp ad)) (hg2 : jCN l D vwCl (tyC cy) cy ad ftC ksC (XtC ad) yX6_readNots (.code yX6_readNots cX6_readNots 3 (some .boolean) :: Om) (rm_gq_ dp) 3 (W_X6_readNots dp ad)) (hg3 : jCN l D vwCl (tyC cy) cy ad ftC ksC (XtC ad) yX6_readComparison (.code yX6_readComparison cX6_readComparison 2 (some .boolean) :: Om) (rm_gq_ dp) 3 (W_X6_readComparison dp ad)) (hg4 : jCN l D vwCl (tyC cy) cy ad ftC ksC (XtC ad) yX6_readSums (.code yX6_readSums cX6_readSums 3 (some .boolean) :: Om) (rm_gq_ dp) 3 (W_X6_readSums dp ad)) (hg5 : jCN l D vwCl (tyC cy) cy ad ftC ksC (XtC ad) yX6_readProducts (.code yX6_readProducts cX6_readProducts 3 (some .boolean) :: Om) (rm_gq_ dp) 3 (W_X6_readProducts dp ad)) (hg6 : jCN l D vwCl (tyC cy) cy ad ftC ksC (XtC ad) yX6_readSigned (.code yX6_readSigned cX6_readSigned 3 (some .boolean) :: Om) (rm_gq_ dp) 3 (W_X6_readSigned dp ad)) (hg7 : jCN l D vwCl (tyC cy) cy ad ftC ksC (XtC ad) yX6_readP (.code yX6_readP cX6_readP 3 (some .boolean) :: Om) (rm_gq_ dp) 3 (W_X6_readP dp ad)) (hg8 : jCN l D vwCl (tyC cy) cy ad ftC ksC (XtC ad) yX6_readTail (.code yX6_readTail cX6_readTail 3 (some .boolean) :: Om) (rm_gq_ dp) 3 (W_X6_readTail dp ad)) (hg9 : jCN l D vwCl (tyC cy) cy ad ftC ksC (XtC ad) yX6_readAtom (.code yX6_readAtom cX6_readAtom 1 (some .boolean) :: Om) (rm_gq_ dp) 3 (W_X6_readAtom dp ad)) (hg10 : jCN l D vwCl (tyC cy) cy ad ftC ksC (XtC ad) yX6_readInner (.code yX6_readInner cX6_readInner 1 (some .boolean) :: Om) (rm_gq_ dp) 3 (W_X6_readInner dp ad)) (hg11 : jCN l D vwCl (tyC cy) cy ad ftC ksC (XtC ad) yX6_readFold (.code yX6_readFold cX6_readFold 5 (some .boolean) :: Om) (rm_gq_ dp) 3 (W_X6_readFold dp ad)) (hg12 : jCN l D vwCl (tyC cy) cy ad ftC ksC (XtC ad) yX6_readFoldBody (.code yX6_readFoldBody cX6_readFoldBody 4 (some .boolean) :: Om) (rm_gq_ dp) 3 (W_X6_readFoldBody dp ad)) (hg13 : jCN l D vwCl (tyC cy) cy ad ftC ksC (XtC ad) yX6_readSet (.code yX6_readSet cX6_readSet 3 (some .boolean) :: Om) (rm_gq_ dp) 3 (W_X6_readSet dp ad)) (hg14 : jCN l D vwCl (tyC cy) cy ad ftC ksC (XtC ad) yX6_readWhere (.code yX6_readWhere cX6_readWhere 2 (some .boolean) :: Om) (rm_gq_ dp) 3 (W_X6_readWhere dp ad)) (hJ : jOk l D vwCl (tyC cy) cy ad ftC ksC (XtC ad) Om RX6 cX6_readTail 3 3 (rm_gq_ (dp + 1)) Q J) {K2 : Int → MM → Prop} (hK2 : ∀ (x1 : Int) (M : MM), ri_ x1 → K2 x1 M → J 2 [(0, .ref (ad c)), (1, .int (Ii x1))] [] M) : ∀ (x1 : Int) (M : MM), ri_ x1 → w_X6_readTail_b32 c (gq_ c dp) Q K2 x1 M → J 32 [(0, .ref (ad c)), (1, .int (Ii x1))] [] M := by
  intro x1 M gx1 hF
  unfold w_X6_readTail_b32 at hF
  refine j_aload_n hJ dX6_readTail_32 rfl 0 rfl ?_
  refine j_ga hJ (kG_0 hc) fC_9_0 fl_X6_9 dX6_readTail_33 ?_
  refine j_gi hJ kC_1 fC_12_9 rfl fl_X6_45 dX6_readTail_36 (fun v1 ev1 gv1 => ?_)
  have hF := hF v1 ev1 gv1
  refine j_bipush hJ dX6_readTail_39 (by decide) ?_
  refine j_icmp_ne hJ 48 gv1 rk_6 dX6_readTail_41 (by decide) (fun z2 => ?_) (fun z2 => ?_)
  · have hF := hF.1 z2
    refine j_iconst hJ dX6_readTail_48 ?_
    exact j_sub hJ [0, 1] rfl (k_X6_readTail_b49 hin hc hg0 hg1 hg2 hg3 hg4 hg5 hg6 hg7 hg8 hg9 hg10 hg11 hg12 hg13 hg14 hJ hK2 x1 0 _ gx1 rk_0 hF)
  · have hF := hF.2 z2
    refine j_iconst hJ dX6_readTail_44 ?_
    refine j_goto hJ 49 dX6_readTail_45 (by decide) ?_
    exact j_sub hJ [0, 1] rfl (k_X6_readTail_b49 hin hc hg0 hg1 hg2 hg3 hg4 hg5 hg6 hg7 hg8 hg9 hg10 hg11 hg12 hg13 hg14 hJ hK2 x1 1 _ gx1 rk_1 hF)
set_option maxHeartbeats 4000000 in
set_option maxRecDepth 100000 in
theorem k_X6_readTail_b2 {l : Launch} {D : va_G} {cy : Nat → ClassId} {ad : Nat → Nat} {dp : Nat} {Q : Int → MM → Prop} {J : Nat → List (Nat × Value) → List Value → MM → Prop} (hin : jIn ad ksC.length) {c : Nat} (hc : isG c) (hg0 : jCN l D vwCl (tyC cy) cy ad ftC ksC (XtC ad) yX6_readE (.code yX6_readE cX6_readE 3 (some .boolean) :: Om) (rm_gq_ dp) 3 (W_X6_readE dp ad)) (hg1 : jCN l D vwCl (tyC cy) cy ad ftC ksC (XtC ad) yX6_readAnds (.code yX6_readAnds cX6_readAnds 3 (some .boolean) :: Om) (rm_gq_ dp) 3 (W_X6_readAnds dp ad)) (hg2 : jCN l D vwCl (tyC cy) cy ad ftC ksC (XtC ad) yX6_readNots (.code yX6_readNots cX6_readNots 3 (some .boolean) :: Om) (rm_gq_ dp) 3 (W_X6_readNots dp ad)) (hg3 : jCN l D vwCl (tyC cy) cy ad ftC ksC (XtC ad) yX6_readComparison (.code yX6_readComparison cX6_readComparison 2 (some .boolean) :: Om) (rm_gq_ dp) 3 (W_X6_readComparison dp ad)) (hg4 : jCN l D vwCl (tyC cy) cy ad ftC ksC (XtC ad) yX6_readSums (.code yX6_readSums cX6_readSums 3 (some .boolean) :: Om) (rm_gq_ dp) 3 (W_X6_readSums dp ad)) (hg5 : jCN l D vwCl (tyC cy) cy ad ftC ksC (XtC ad) yX6_readProducts (.code yX6_readProducts cX6_readProducts 3 (some .boolean) :: Om) (rm_gq_ dp) 3 (W_X6_readProducts dp ad)) (hg6 : jCN l D vwCl (tyC cy) cy ad ftC ksC (XtC ad) yX6_readSigned (.code yX6_readSigned cX6_readSigned 3 (some .boolean) :: Om) (rm_gq_ dp) 3 (W_X6_readSigned dp ad)) (hg7 : jCN l D vwCl (tyC cy) cy ad ftC ksC (XtC ad) yX6_readP (.code yX6_readP cX6_readP 3 (some .boolean) :: Om) (rm_gq_ dp) 3 (W_X6_readP dp ad)) (hg8 : jCN l D vwCl (tyC cy) cy ad ftC ksC (XtC ad) yX6_readTail (.code yX6_readTail cX6_readTail 3 (some .boolean) :: Om) (rm_gq_ dp) 3 (W_X6_readTail dp ad)) (hg9 : jCN l D vwCl (tyC cy) cy ad ftC ksC (XtC ad) yX6_readAtom (.code yX6_readAtom cX6_readAtom 1 (some .boolean) :: Om) (rm_gq_ dp) 3 (W_X6_readAtom dp ad)) (hg10 : jCN l D vwCl (tyC cy) cy ad ftC ksC (XtC ad) yX6_readInner (.code yX6_readInner cX6_readInner 1 (some .boolean) :: Om) (rm_gq_ dp) 3 (W_X6_readInner dp ad)) (hg11 : jCN l D vwCl (tyC cy) cy ad ftC ksC (XtC ad) yX6_readFold (.code yX6_readFold cX6_readFold 5 (some .boolean) :: Om) (rm_gq_ dp) 3 (W_X6_readFold dp ad)) (hg12 : jCN l D vwCl (tyC cy) cy ad ftC ksC (XtC ad) yX6_readFoldBody (.code yX6_readFoldBody cX6_readFoldBody 4 (some .boolean) :: Om) (rm_gq_ dp) 3 (W_X6_readFoldBody dp ad)) (hg13 : jCN l D vwCl (tyC cy) cy ad ftC ksC (XtC ad) yX6_readSet (.code yX6_readSet cX6_readSet 3 (some .boolean) :: Om) (rm_gq_ dp) 3 (W_X6_readSet dp ad)) (hg14 : jCN l D vwCl (tyC cy) cy ad ftC ksC (XtC ad) yX6_readWhere (.code yX6_readWhere cX6_readWhere 2 (some .boolean) :: Om) (rm_gq_ dp) 3 (W_X6_readWhere dp ad)) (hJ : jOk l D vwCl (tyC cy) cy ad ftC ksC (XtC ad) Om RX6 cX6_readTail 3 3 (rm_gq_ (dp + 1)) Q J)  : ∀ (x1 : Int) (M : MM), ri_ x1 → w_X6_readTail_b2 c (gq_ c dp) Q  x1 M → J 2 [(0, .ref (ad c)), (1, .int (Ii x1))] [] M := by
  have H9 : ∀ (n : Nat) (x1 : Int) (M : MM), ri_ x1 → jit (fun _ _ => False) (wb_X6_readTail_b2 c (gq_ c dp) Q ) n x1 M → J 2 [(0, .ref (ad c)), (1, .int (Ii x1))] [] M := by
    intro n
    induction n with
    | zero => intro x1 M gx1 hF; exact False.elim hF
    | succ n ih =>
    intro x1 M gx1 hF
    have hF : wb_X6_readTail_b2 c (gq_ c dp) Q  (jit (fun _ _ => False) (wb_X6_readTail_b2 c (gq_ c dp) Q ) n) x1 M := hF
    unfold wb_X6_readTail_b2 at hF
    refine j_iload_n hJ dX6_readTail_2 rfl 1 rfl ?_
    refine j_bipush hJ dX6_readTail_3 (by decide) ?_
    refine j_icmp_gt hJ 151 gx1 rk_120 dX6_readTail_5 (by decide) (fun z1 => ?_) (fun z1 => ?_)
    · have hF := hF.1 z1
      refine j_iconst hJ dX6_readTail_151 ?_
      exact j_zret hJ rfl (by decide) dX6_readTail_152 hF
    · have hF := hF.2 z1
      refine j_aload_n hJ dX6_readTail_8 rfl 0 rfl ?_
      refine j_ga hJ (kG_0 hc) fC_9_0 fl_X6_9 dX6_readTail_9 ?_
      refine j_gi hJ kC_1 fC_12_9 rfl fl_X6_45 dX6_readTail_12 (fun v2 ev2 gv2 => ?_)
      have hF := hF v2 ev2 gv2
      refine j_bipush hJ dX6_readTail_15 (by decide) ?_
      refine j_icmp_eq hJ 32 gv2 rk_11 dX6_readTail_17 (by decide) (fun z3 => ?_) (fun z3 => ?_)
      · have hF := hF.1 z3
        exact j_sub hJ [0, 1] rfl (k_X6_readTail_b32 hin hc hg0 hg1 hg2 hg3 hg4 hg5 hg6 hg7 hg8 hg9 hg10 hg11 hg12 hg13 hg14 hJ ih x1 _ gx1 hF)
      · have hF := hF.2 z3
        refine j_aload_n hJ dX6_readTail_20 rfl 0 rfl ?_
        refine j_ga hJ (kG_0 hc) fC_9_0 fl_X6_9 dX6_readTail_21 ?_
        refine j_gi hJ kC_1 fC_12_9 rfl fl_X6_45 dX6_readTail_24 (fun v4 ev4 gv4 => ?_)
        have hF := hF v4 ev4 gv4
        refine j_bipush hJ dX6_readTail_27 (by decide) ?_
        refine j_icmp_ne hJ 151 gv4 rk_6 dX6_readTail_29 (by decide) (fun z5 => ?_) (fun z5 => ?_)
        · have hF := hF.1 z5
          refine j_iconst hJ dX6_readTail_151 ?_
          exact j_zret hJ rfl (by decide) dX6_readTail_152 hF
        · have hF := hF.2 z5
          exact j_sub hJ [0, 1] rfl (k_X6_readTail_b32 hin hc hg0 hg1 hg2 hg3 hg4 hg5 hg6 hg7 hg8 hg9 hg10 hg11 hg12 hg13 hg14 hJ ih x1 _ gx1 hF)
  intro x1 M gx1 hF
  obtain ⟨n, hF⟩ := hF
  exact H9 n x1 M gx1 hF
set_option maxHeartbeats 4000000 in
set_option maxRecDepth 100000 in
theorem s_X6_readTail {l : Launch} {D : va_G} {cy : Nat → ClassId} {ad : Nat → Nat} {dp : Nat} (hin : jIn ad ksC.length) (hg0 : jCN l D vwCl (tyC cy) cy ad ftC ksC (XtC ad) yX6_readE (.code yX6_readE cX6_readE 3 (some .boolean) :: Om) (rm_gq_ dp) 3 (W_X6_readE dp ad)) (hg1 : jCN l D vwCl (tyC cy) cy ad ftC ksC (XtC ad) yX6_readAnds (.code yX6_readAnds cX6_readAnds 3 (some .boolean) :: Om) (rm_gq_ dp) 3 (W_X6_readAnds dp ad)) (hg2 : jCN l D vwCl (tyC cy) cy ad ftC ksC (XtC ad) yX6_readNots (.code yX6_readNots cX6_readNots 3 (some .boolean) :: Om) (rm_gq_ dp) 3 (W_X6_readNots dp ad)) (hg3 : jCN l D vwCl (tyC cy) cy ad ftC ksC (XtC ad) yX6_readComparison (.code yX6_readComparison cX6_readComparison 2 (some .boolean) :: Om) (rm_gq_ dp) 3 (W_X6_readComparison dp ad)) (hg4 : jCN l D vwCl (tyC cy) cy ad ftC ksC (XtC ad) yX6_readSums (.code yX6_readSums cX6_readSums 3 (some .boolean) :: Om) (rm_gq_ dp) 3 (W_X6_readSums dp ad)) (hg5 : jCN l D vwCl (tyC cy) cy ad ftC ksC (XtC ad) yX6_readProducts (.code yX6_readProducts cX6_readProducts 3 (some .boolean) :: Om) (rm_gq_ dp) 3 (W_X6_readProducts dp ad)) (hg6 : jCN l D vwCl (tyC cy) cy ad ftC ksC (XtC ad) yX6_readSigned (.code yX6_readSigned cX6_readSigned 3 (some .boolean) :: Om) (rm_gq_ dp) 3 (W_X6_readSigned dp ad)) (hg7 : jCN l D vwCl (tyC cy) cy ad ftC ksC (XtC ad) yX6_readP (.code yX6_readP cX6_readP 3 (some .boolean) :: Om) (rm_gq_ dp) 3 (W_X6_readP dp ad)) (hg8 : jCN l D vwCl (tyC cy) cy ad ftC ksC (XtC ad) yX6_readTail (.code yX6_readTail cX6_readTail 3 (some .boolean) :: Om) (rm_gq_ dp) 3 (W_X6_readTail dp ad)) (hg9 : jCN l D vwCl (tyC cy) cy ad ftC ksC (XtC ad) yX6_readAtom (.code yX6_readAtom cX6_readAtom 1 (some .boolean) :: Om) (rm_gq_ dp) 3 (W_X6_readAtom dp ad)) (hg10 : jCN l D vwCl (tyC cy) cy ad ftC ksC (XtC ad) yX6_readInner (.code yX6_readInner cX6_readInner 1 (some .boolean) :: Om) (rm_gq_ dp) 3 (W_X6_readInner dp ad)) (hg11 : jCN l D vwCl (tyC cy) cy ad ftC ksC (XtC ad) yX6_readFold (.code yX6_readFold cX6_readFold 5 (some .boolean) :: Om) (rm_gq_ dp) 3 (W_X6_readFold dp ad)) (hg12 : jCN l D vwCl (tyC cy) cy ad ftC ksC (XtC ad) yX6_readFoldBody (.code yX6_readFoldBody cX6_readFoldBody 4 (some .boolean) :: Om) (rm_gq_ dp) 3 (W_X6_readFoldBody dp ad)) (hg13 : jCN l D vwCl (tyC cy) cy ad ftC ksC (XtC ad) yX6_readSet (.code yX6_readSet cX6_readSet 3 (some .boolean) :: Om) (rm_gq_ dp) 3 (W_X6_readSet dp ad)) (hg14 : jCN l D vwCl (tyC cy) cy ad ftC ksC (XtC ad) yX6_readWhere (.code yX6_readWhere cX6_readWhere 2 (some .boolean) :: Om) (rm_gq_ dp) 3 (W_X6_readWhere dp ad)) : jCN l D vwCl (tyC cy) cy ad ftC ksC (XtC ad) yX6_readTail (.code yX6_readTail cX6_readTail 3 (some .boolean) :: Om) (rm_gq_ (dp + 1)) 3 (W_X6_readTail (dp + 1) ad) := by
  refine jCN_of (y := yX6_readTail) (cc := cX6_readTail) (nL := 3) (rk := 3) (rm := (rm_gq_ (dp + 1))) (own := RX6) (tyC_ok cy) hin (XtC_ok ad) Om_good (by decide) rfl ?_
  intro Q av M hF
  obtain ⟨c, rfl, hc, hF⟩ := hF
  refine ⟨Nat.le_of_ble_eq_true rfl, fun J hJ => ?_⟩
  show J 0 [(0, .ref (ad c))] [] M
  have hF : b_X6_readTail c (gq_ c dp) Q  M := hF
  unfold b_X6_readTail at hF
  refine j_iconst hJ dX6_readTail_0 ?_
  refine j_istore_n (lv' := [(1, .int (Ii 0)), (0, .ref (ad c))]) hJ dX6_readTail_1 rfl (by decide) rfl ?_
  exact j_sub hJ [1, 0] rfl (k_X6_readTail_b2 hin hc hg0 hg1 hg2 hg3 hg4 hg5 hg6 hg7 hg8 hg9 hg10 hg11 hg12 hg13 hg14 hJ  0 _ rk_0 hF)
set_option maxHeartbeats 4000000 in
set_option maxRecDepth 100000 in
theorem k_X6_readAtom_b187 {l : Launch} {D : va_G} {cy : Nat → ClassId} {ad : Nat → Nat} {dp : Nat} {Q : Int → MM → Prop} {J : Nat → List (Nat × Value) → List Value → MM → Prop} (hin : jIn ad ksC.length) {c : Nat} (hc : isG c) (hg0 : jCN l D vwCl (tyC cy) cy ad ftC ksC (XtC ad) yX6_readE (.code yX6_readE cX6_readE 3 (some .boolean) :: Om) (rm_gq_ dp) 3 (W_X6_readE dp ad)) (hg1 : jCN l D vwCl (tyC cy) cy ad ftC ksC (XtC ad) yX6_readAnds (.code yX6_readAnds cX6_readAnds 3 (some .boolean) :: Om) (rm_gq_ dp) 3 (W_X6_readAnds dp ad)) (hg2 : jCN l D vwCl (tyC cy) cy ad ftC ksC (XtC ad) yX6_readNots (.code yX6_readNots cX6_readNots 3 (some .boolean) :: Om) (rm_gq_ dp) 3 (W_X6_readNots dp ad)) (hg3 : jCN l D vwCl (tyC cy) cy ad ftC ksC (XtC ad) yX6_readComparison (.code yX6_readComparison cX6_readComparison 2 (some .boolean) :: Om) (rm_gq_ dp) 3 (W_X6_readComparison dp ad)) (hg4 : jCN l D vwCl (tyC cy) cy ad ftC ksC (XtC ad) yX6_readSums (.code yX6_readSums cX6_readSums 3 (some .boolean) :: Om) (rm_gq_ dp) 3 (W_X6_readSums dp ad)) (hg5 : jCN l D vwCl (tyC cy) cy ad ftC ksC (XtC ad) yX6_readProducts (.code yX6_readProducts cX6_readProducts 3 (some .boolean) :: Om) (rm_gq_ dp) 3 (W_X6_readProducts dp ad)) (hg6 : jCN l D vwCl (tyC cy) cy ad ftC ksC (XtC ad) yX6_readSigned (.code yX6_readSigned cX6_readSigned 3 (some .boolean) :: Om) (rm_gq_ dp) 3 (W_X6_readSigned dp ad)) (hg7 : jCN l D vwCl (tyC cy) cy ad ftC ksC (XtC ad) yX6_readP (.code yX6_readP cX6_readP 3 (some .boolean) :: Om) (rm_gq_ dp) 3 (W_X6_readP dp ad)) (hg8 : jCN l D vwCl (tyC cy) cy ad ftC ksC (XtC ad) yX6_readTail (.code yX6_readTail cX6_readTail 3 (some .boolean) :: Om) (rm_gq_ dp) 3 (W_X6_readTail dp ad)) (hg9 : jCN l D vwCl (tyC cy) cy ad ftC ksC (XtC ad) yX6_readAtom (.code yX6_readAtom cX6_readAtom 1 (some .boolean) :: Om) (rm_gq_ dp) 3 (W_X6_readAtom dp ad)) (hg10 : jCN l D vwCl (tyC cy) cy ad ftC ksC (XtC ad) yX6_readInner (.code yX6_readInner cX6_readInner 1 (some .boolean) :: Om) (rm_gq_ dp) 3 (W_X6_readInner dp ad)) (hg11 : jCN l D vwCl (tyC cy) cy ad ftC ksC (XtC ad) yX6_readFold (.code yX6_readFold cX6_readFold 5 (some .boolean) :: Om) (rm_gq_ dp) 3 (W_X6_readFold dp ad)) (hg12 : jCN l D vwCl (tyC cy) cy ad ftC ksC (XtC ad) yX6_readFoldBody (.code yX6_readFoldBody cX6_readFoldBody 4 (some .boolean) :: Om) (rm_gq_ dp) 3 (W_X6_readFoldBody dp ad)) (hg13 : jCN l D vwCl (tyC cy) cy ad ftC ksC (XtC ad) yX6_readSet (.code yX6_readSet cX6_readSet 3 (some .boolean) :: Om) (rm_gq_ dp) 3 (W_X6_readSet dp ad)) (hg14 : jCN l D vwCl (tyC cy) cy ad ftC ksC (XtC ad) yX6_readWhere (.code yX6_readWhere cX6_readWhere 2 (some .boolean) :: Om) (rm_gq_ dp) 3 (W_X6_readWhere dp ad)) (hJ : jOk l D vwCl (tyC cy) cy ad ftC ksC (XtC ad) Om RX6 cX6_readAtom 1 3 (rm_gq_ (dp + 1)) Q J)  : ∀ (M : MM), w_X6_readAtom_b187 c (gq_ c dp) Q   M → J 187 [(0, .ref (ad c))] [] M := by
  intro  M  hF
  unfold w_X6_readAtom_b187 at hF
  refine j_aload_n hJ dX6_readAtom_187 rfl 0 rfl ?_
  refine j_callVz hJ (c_X6_refuse (l := l) (D := D) (cy := cy) (ad := ad) hin) rfl om_643 ⟨rfl, rfl, by show _ ≤ _; simp only [rm_gq_]; omega, by show _ ≤ _; simp only [rm_gq_]; omega⟩ [] mv_X6_51 hd_X6_refusev (kG_0 hc) rfl rfl rfl (Nat.le_of_ble_eq_true rfl) dX6_readAtom_188 ⟨c, rfl, hc, hF⟩ (fun r1 M2 gr1 qM2 => ?_)
  have hF := qM2 gr1
  exact j_zret hJ rfl gr1 dX6_readAtom_191 hF
set_option maxHeartbeats 4000000 in
set_option maxRecDepth 100000 in
theorem s_X6_readAtom {l : Launch} {D : va_G} {cy : Nat → ClassId} {ad : Nat → Nat} {dp : Nat} (hin : jIn ad ksC.length) (hg0 : jCN l D vwCl (tyC cy) cy ad ftC ksC (XtC ad) yX6_readE (.code yX6_readE cX6_readE 3 (some .boolean) :: Om) (rm_gq_ dp) 3 (W_X6_readE dp ad)) (hg1 : jCN l D vwCl (tyC cy) cy ad ftC ksC (XtC ad) yX6_readAnds (.code yX6_readAnds cX6_readAnds 3 (some .boolean) :: Om) (rm_gq_ dp) 3 (W_X6_readAnds dp ad)) (hg2 : jCN l D vwCl (tyC cy) cy ad ftC ksC (XtC ad) yX6_readNots (.code yX6_readNots cX6_readNots 3 (some .boolean) :: Om) (rm_gq_ dp) 3 (W_X6_readNots dp ad)) (hg3 : jCN l D vwCl (tyC cy) cy ad ftC ksC (XtC ad) yX6_readComparison (.code yX6_readComparison cX6_readComparison 2 (some .boolean) :: Om) (rm_gq_ dp) 3 (W_X6_readComparison dp ad)) (hg4 : jCN l D vwCl (tyC cy) cy ad ftC ksC (XtC ad) yX6_readSums (.code yX6_readSums cX6_readSums 3 (some .boolean) :: Om) (rm_gq_ dp) 3 (W_X6_readSums dp ad)) (hg5 : jCN l D vwCl (tyC cy) cy ad ftC ksC (XtC ad) yX6_readProducts (.code yX6_readProducts cX6_readProducts 3 (some .boolean) :: Om) (rm_gq_ dp) 3 (W_X6_readProducts dp ad)) (hg6 : jCN l D vwCl (tyC cy) cy ad ftC ksC (XtC ad) yX6_readSigned (.code yX6_readSigned cX6_readSigned 3 (some .boolean) :: Om) (rm_gq_ dp) 3 (W_X6_readSigned dp ad)) (hg7 : jCN l D vwCl (tyC cy) cy ad ftC ksC (XtC ad) yX6_readP (.code yX6_readP cX6_readP 3 (some .boolean) :: Om) (rm_gq_ dp) 3 (W_X6_readP dp ad)) (hg8 : jCN l D vwCl (tyC cy) cy ad ftC ksC (XtC ad) yX6_readTail (.code yX6_readTail cX6_readTail 3 (some .boolean) :: Om) (rm_gq_ dp) 3 (W_X6_readTail dp ad)) (hg9 : jCN l D vwCl (tyC cy) cy ad ftC ksC (XtC ad) yX6_readAtom (.code yX6_readAtom cX6_readAtom 1 (some .boolean) :: Om) (rm_gq_ dp) 3 (W_X6_readAtom dp ad)) (hg10 : jCN l D vwCl (tyC cy) cy ad ftC ksC (XtC ad) yX6_readInner (.code yX6_readInner cX6_readInner 1 (some .boolean) :: Om) (rm_gq_ dp) 3 (W_X6_readInner dp ad)) (hg11 : jCN l D vwCl (tyC cy) cy ad ftC ksC (XtC ad) yX6_readFold (.code yX6_readFold cX6_readFold 5 (some .boolean) :: Om) (rm_gq_ dp) 3 (W_X6_readFold dp ad)) (hg12 : jCN l D vwCl (tyC cy) cy ad ftC ksC (XtC ad) yX6_readFoldBody (.code yX6_readFoldBody cX6_readFoldBody 4 (some .boolean) :: Om) (rm_gq_ dp) 3 (W_X6_readFoldBody dp ad)) (hg13 : jCN l D vwCl (tyC cy) cy ad ftC ksC (XtC ad) yX6_readSet (.code yX6_readSet cX6_readSet 3 (some .boolean) :: Om) (rm_gq_ dp) 3 (W_X6_readSet dp ad)) (hg14 : jCN l D vwCl (tyC cy) cy ad ftC ksC (XtC ad) yX6_readWhere (.code yX6_readWhere cX6_readWhere 2 (some .boolean) :: Om) (rm_gq_ dp) 3 (W_X6_readWhere dp ad)) : jCN l D vwCl (tyC cy) cy ad ftC ksC (XtC ad) yX6_readAtom (.code yX6_readAtom cX6_readAtom 1 (some .boolean) :: Om) (rm_gq_ (dp + 1)) 3 (W_X6_readAtom (dp + 1) ad) := by
  refine jCN_of (y := yX6_readAtom) (cc := cX6_readAtom) (nL := 1) (rk := 3) (rm := (rm_gq_ (dp + 1))) (own := RX6) (tyC_ok cy) hin (XtC_ok ad) Om_good (by decide) rfl ?_
  intro Q av M hF
  obtain ⟨c, rfl, hc, hF⟩ := hF
  refine ⟨Nat.le_of_ble_eq_true rfl, fun J hJ => ?_⟩
  show J 0 [(0, .ref (ad c))] [] M
  have hF : b_X6_readAtom c (gq_ c dp) Q  M := hF
  unfold b_X6_readAtom at hF
  refine j_aload_n hJ dX6_readAtom_0 rfl 0 rfl ?_
  refine j_ga hJ (kG_0 hc) fC_9_0 fl_X6_9 dX6_readAtom_1 ?_
  refine j_gi hJ kC_1 fC_12_9 rfl fl_X6_45 dX6_readAtom_4 (fun v1 ev1 gv1 => ?_)
  have hF := hF v1 ev1 gv1
  by_cases z2 : v1 = 2
  · refine j_look hJ 134 141 gv1 dX6_readAtom_7 (by decide) (by rw [z2]; decide) (by decide) ?_
    have hF := hF.1 z2
    refine j_aload_n hJ dX6_readAtom_141 rfl 0 rfl ?_
    refine j_callVz hJ (c_X6_readVariable (l := l) (D := D) (cy := cy) (ad := ad) hin) rfl om_683 ⟨rfl, rfl, by show _ ≤ _; simp only [rm_gq_]; omega, by show _ ≤ _; simp only [rm_gq_]; omega⟩ [] mv_X6_163 hd_X6_readVariablev (kG_0 hc) rfl rfl rfl (Nat.le_of_ble_eq_true rfl) dX6_readAtom_142 ⟨c, rfl, hc, hF⟩ (fun r3 M4 gr3 qM4 => ?_)
    have hF := qM4 gr3
    exact j_zret hJ rfl gr3 dX6_readAtom_145 hF
  by_cases z5 : v1 = 3
  · refine j_look hJ 73 80 gv1 dX6_readAtom_7 (by decide) (by rw [z5]; decide) (by decide) ?_
    have hF := hF.2.1 z5
    refine j_aload_n hJ dX6_readAtom_80 rfl 0 rfl ?_
    refine j_iconst hJ dX6_readAtom_81 ?_
    refine j_iconst hJ dX6_readAtom_82 ?_
    refine j_aload_n hJ dX6_readAtom_83 rfl 0 rfl ?_
    refine j_ga hJ (kG_0 hc) fC_9_0 fl_X6_9 dX6_readAtom_84 ?_
    refine j_gl hJ kC_1 fC_12_11 rfl fl_X6_118 dX6_readAtom_87 (fun v6 ev6 gv6 => ?_)
    have hF := hF v6 ev6 gv6
    refine j_callVz hJ (c_X6_readLeaf (l := l) (D := D) (cy := cy) (ad := ad) hin) rfl om_679 ⟨rfl, rfl, by show _ ≤ _; simp only [rm_gq_]; omega, by show _ ≤ _; simp only [rm_gq_]; omega⟩ [.int (Ii 0), .int (Ii 0), .long (Ll v6)] mv_X6_159 hd_X6_readLeafv (kG_0 hc) rfl rfl rfl (Nat.le_of_ble_eq_true rfl) dX6_readAtom_90 ⟨c, 0, 0, v6, rfl, hc, rk_0, rk_0, gv6, hF⟩ (fun r7 M8 gr7 qM8 => ?_)
    have hF := qM8 gr7
    exact j_zret hJ rfl gr7 dX6_readAtom_93 hF
  by_cases z9 : v1 = 4
  · refine j_look hJ 144 151 gv1 dX6_readAtom_7 (by decide) (by rw [z9]; decide) (by decide) ?_
    have hF := hF.2.2.1 z9
    refine j_aload_n hJ dX6_readAtom_151 rfl 0 rfl ?_
    refine j_callVz hJ hg10 rfl om_687 ⟨rfl, rfl, by show _ ≤ _; simp only [rm_gq_]; omega, by show _ ≤ _; simp only [rm_gq_]; omega⟩ [] mv_X6_169 hd_X6_readInnerv (kG_0 hc) rfl rfl rfl (Nat.le_of_ble_eq_true rfl) dX6_readAtom_152 ⟨c, rfl, hc, hF⟩ (fun r10 M11 gr10 qM11 => ?_)
    have hF := qM11 gr10
    exact j_zret hJ rfl gr10 dX6_readAtom_155 hF
  by_cases z12 : v1 = 33
  · refine j_look hJ 139 146 gv1 dX6_readAtom_7 (by decide) (by rw [z12]; decide) (by decide) ?_
    have hF := hF.2.2.2.1 z12
    refine j_aload_n hJ dX6_readAtom_146 rfl 0 rfl ?_
    refine j_callVz hJ (c_X6_readThing (l := l) (D := D) (cy := cy) (ad := ad) hin) rfl om_691 ⟨rfl, rfl, by show _ ≤ _; simp only [rm_gq_]; omega, by show _ ≤ _; simp only [rm_gq_]; omega⟩ [] mv_X6_166 hd_X6_readThingv (kG_0 hc) rfl rfl rfl (Nat.le_of_ble_eq_true rfl) dX6_readAtom_147 ⟨c, rfl, hc, hF⟩ (fun r13 M14 gr13 qM14 => ?_)
    have hF := qM14 gr13
    exact j_zret hJ rfl gr13 dX6_readAtom_150 hF
  by_cases z15 : v1 = 39
  · refine j_look hJ 87 94 gv1 dX6_readAtom_7 (by decide) (by rw [z15]; decide) (by decide) ?_
    have hF := hF.2.2.2.2.1 z15
    refine j_aload_n hJ dX6_readAtom_94 rfl 0 rfl ?_
    refine j_iconst hJ dX6_readAtom_95 ?_
    refine j_iconst hJ dX6_readAtom_96 ?_
    refine j_lconst (x := 0) hJ dX6_readAtom_97 rfl ?_
    refine j_callVz hJ (c_X6_readLeaf (l := l) (D := D) (cy := cy) (ad := ad) hin) rfl om_679 ⟨rfl, rfl, by show _ ≤ _; simp only [rm_gq_]; omega, by show _ ≤ _; simp only [rm_gq_]; omega⟩ [.int (Ii 1), .int (Ii 0), .long (Ll 0)] mv_X6_159 hd_X6_readLeafv (kG_0 hc) rfl rfl rfl (Nat.le_of_ble_eq_true rfl) dX6_readAtom_98 ⟨c, 1, 0, 0, rfl, hc, rk_1, rk_0, lkm_0, hF⟩ (fun r16 M17 gr16 qM17 => ?_)
    have hF := qM17 gr16
    exact j_zret hJ rfl gr16 dX6_readAtom_101 hF
  by_cases z18 : v1 = 40
  · refine j_look hJ 95 102 gv1 dX6_readAtom_7 (by decide) (by rw [z18]; decide) (by decide) ?_
    have hF := hF.2.2.2.2.2.1 z18
    refine j_aload_n hJ dX6_readAtom_102 rfl 0 rfl ?_
    refine j_iconst hJ dX6_readAtom_103 ?_
    refine j_iconst hJ dX6_readAtom_104 ?_
    refine j_lconst (x := 0) hJ dX6_readAtom_105 rfl ?_
    refine j_callVz hJ (c_X6_readLeaf (l := l) (D := D) (cy := cy) (ad := ad) hin) rfl om_679 ⟨rfl, rfl, by show _ ≤ _; simp only [rm_gq_]; omega, by show _ ≤ _; simp only [rm_gq_]; omega⟩ [.int (Ii 2), .int (Ii 0), .long (Ll 0)] mv_X6_159 hd_X6_readLeafv (kG_0 hc) rfl rfl rfl (Nat.le_of_ble_eq_true rfl) dX6_readAtom_106 ⟨c, 2, 0, 0, rfl, hc, rk_2, rk_0, lkm_0, hF⟩ (fun r19 M20 gr19 qM20 => ?_)
    have hF := qM20 gr19
    exact j_zret hJ rfl gr19 dX6_readAtom_109 hF
  by_cases z21 : v1 = 41
  · refine j_look hJ 103 110 gv1 dX6_readAtom_7 (by decide) (by rw [z21]; decide) (by decide) ?_
    have hF := hF.2.2.2.2.2.2.1 z21
    refine j_aload_n hJ dX6_readAtom_110 rfl 0 rfl ?_
    refine j_iconst hJ dX6_readAtom_111 ?_
    refine j_iconst hJ dX6_readAtom_112 ?_
    refine j_lconst (x := 0) hJ dX6_readAtom_113 rfl ?_
    refine j_callVz hJ (c_X6_readLeaf (l := l) (D := D) (cy := cy) (ad := ad) hin) rfl om_679 ⟨rfl, rfl, by show _ ≤ _; simp only [rm_gq_]; omega, by show _ ≤ _; simp only [rm_gq_]; omega⟩ [.int (Ii 3), .int (Ii 0), .long (Ll 0)] mv_X6_159 hd_X6_readLeafv (kG_0 hc) rfl rfl rfl (Nat.le_of_ble_eq_true rfl) dX6_readAtom_114 ⟨c, 3, 0, 0, rfl, hc, rk_3, rk_0, lkm_0, hF⟩ (fun r22 M23 gr22 qM23 => ?_)
    have hF := qM23 gr22
    exact j_zret hJ rfl gr22 dX6_readAtom_117 hF
  by_cases z24 : v1 = 58
  · refine j_look hJ 111 118 gv1 dX6_readAtom_7 (by decide) (by rw [z24]; decide) (by decide) ?_
    have hF := hF.2.2.2.2.2.2.2.1 z24
    refine j_aload_n hJ dX6_readAtom_118 rfl 0 rfl ?_
    refine j_gz hJ (kG_0 hc) fC_9_13 rfl fl_X6_62 dX6_readAtom_119 (fun v25 ev25 gv25 => ?_)
    have hF := hF v25 ev25 gv25
    refine j_if_eq hJ 135 (jz_ri gv25) dX6_readAtom_122 (by decide) (fun z26 => ?_) (fun z26 => ?_)
    · have hF := hF.1 z26
      refine j_aload_n hJ dX6_readAtom_135 rfl 0 rfl ?_
      refine j_iconst hJ dX6_readAtom_136 ?_
      refine j_callVz hJ (c_X6_fail (l := l) (D := D) (cy := cy) (ad := ad) hin) rfl om_614 ⟨rfl, rfl, by show _ ≤ _; simp only [rm_gq_]; omega, by show _ ≤ _; simp only [rm_gq_]; omega⟩ [.int (Ii 3)] mv_X6_112 hd_X6_failv (kG_0 hc) rfl rfl rfl (Nat.le_of_ble_eq_true rfl) dX6_readAtom_137 ⟨c, 3, rfl, hc, rk_3, hF⟩ (fun r27 M28 gr27 qM28 => ?_)
      have hF := qM28 gr27
      exact j_zret hJ rfl gr27 dX6_readAtom_140 hF
    · have hF := hF.2 z26
      refine j_aload_n hJ dX6_readAtom_125 rfl 0 rfl ?_
      refine j_iconst hJ dX6_readAtom_126 ?_
      refine j_iconst hJ dX6_readAtom_127 ?_
      refine j_lconst (x := 0) hJ dX6_readAtom_128 rfl ?_
      refine j_callVz hJ (c_X6_readLeaf (l := l) (D := D) (cy := cy) (ad := ad) hin) rfl om_679 ⟨rfl, rfl, by show _ ≤ _; simp only [rm_gq_]; omega, by show _ ≤ _; simp only [rm_gq_]; omega⟩ [.int (Ii 5), .int (Ii 0), .long (Ll 0)] mv_X6_159 hd_X6_readLeafv (kG_0 hc) rfl rfl rfl (Nat.le_of_ble_eq_true rfl) dX6_readAtom_129 ⟨c, 5, 0, 0, rfl, hc, rk_5, rk_0, lkm_0, hF⟩ (fun r29 M30 gr29 qM30 => ?_)
      have hF := qM30 gr29
      refine j_goto hJ 140 dX6_readAtom_132 (by decide) ?_
      exact j_zret hJ rfl gr29 dX6_readAtom_140 hF
  have z31 : ¬ v1 = 2 ∧ ¬ v1 = 3 ∧ ¬ v1 = 4 ∧ ¬ v1 = 33 ∧ ¬ v1 = 39 ∧ ¬ v1 = 40 ∧ ¬ v1 = 41 ∧ ¬ v1 = 58 := ⟨z2, z5, z9, z12, z15, z18, z21, z24⟩
  have hF := hF.2.2.2.2.2.2.2.2 z31
  refine j_look hJ 149 156 gv1 dX6_readAtom_7 (by decide) (by show (if 2 = v1 then 134 else if 3 = v1 then 73 else if 4 = v1 then 144 else if 33 = v1 then 139 else if 39 = v1 then 87 else if 40 = v1 then 95 else if 41 = v1 then 103 else if 58 = v1 then 111 else 149 : Int) = 149; rw [if_neg (by omega), if_neg (by omega), if_neg (by omega), if_neg (by omega), if_neg (by omega), if_neg (by omega), if_neg (by omega), if_neg (by omega)]) (by decide) ?_
  refine j_aload_n hJ dX6_readAtom_156 rfl 0 rfl ?_
  refine j_ga hJ (kG_0 hc) fC_9_0 fl_X6_9 dX6_readAtom_157 ?_
  refine j_gi hJ kC_1 fC_12_9 rfl fl_X6_45 dX6_readAtom_160 (fun v32 ev32 gv32 => ?_)
  have hF := hF v32 ev32 gv32
  refine j_bipush hJ dX6_readAtom_163 (by decide) ?_
  refine j_icmp_lt hJ 187 gv32 rk_44 dX6_readAtom_165 (by decide) (fun z33 => ?_) (fun z33 => ?_)
  · have hF := hF.1 z33
    exact j_sub hJ [0] rfl (k_X6_readAtom_b187 hin hc hg0 hg1 hg2 hg3 hg4 hg5 hg6 hg7 hg8 hg9 hg10 hg11 hg12 hg13 hg14 hJ   _  hF)
  · have hF := hF.2 z33
    refine j_aload_n hJ dX6_readAtom_168 rfl 0 rfl ?_
    refine j_ga hJ (kG_0 hc) fC_9_0 fl_X6_9 dX6_readAtom_169 ?_
    refine j_gi hJ kC_1 fC_12_9 rfl fl_X6_45 dX6_readAtom_172 (fun v34 ev34 gv34 => ?_)
    have hF := hF v34 ev34 gv34
    refine j_bipush hJ dX6_readAtom_175 (by decide) ?_
    refine j_icmp_gt hJ 187 gv34 rk_49 dX6_readAtom_177 (by decide) (fun z35 => ?_) (fun z35 => ?_)
    · have hF := hF.1 z35
      exact j_sub hJ [0] rfl (k_X6_readAtom_b187 hin hc hg0 hg1 hg2 hg3 hg4 hg5 hg6 hg7 hg8 hg9 hg10 hg11 hg12 hg13 hg14 hJ   _  hF)
    · have hF := hF.2 z35
      refine j_aload_n hJ dX6_readAtom_180 rfl 0 rfl ?_
      refine j_callVz hJ hg11 rfl om_695 ⟨rfl, rfl, by show _ ≤ _; simp only [rm_gq_]; omega, by show _ ≤ _; simp only [rm_gq_]; omega⟩ [] mv_X6_172 hd_X6_readFoldv (kG_0 hc) rfl rfl rfl (Nat.le_of_ble_eq_true rfl) dX6_readAtom_181 ⟨c, rfl, hc, hF⟩ (fun r36 M37 gr36 qM37 => ?_)
      have hF := qM37 gr36
      refine j_goto hJ 191 dX6_readAtom_184 (by decide) ?_
      exact j_zret hJ rfl gr36 dX6_readAtom_191 hF
set_option maxHeartbeats 4000000 in
set_option maxRecDepth 100000 in
theorem s_X6_readInner {l : Launch} {D : va_G} {cy : Nat → ClassId} {ad : Nat → Nat} {dp : Nat} (hin : jIn ad ksC.length) (hg0 : jCN l D vwCl (tyC cy) cy ad ftC ksC (XtC ad) yX6_readE (.code yX6_readE cX6_readE 3 (some .boolean) :: Om) (rm_gq_ dp) 3 (W_X6_readE dp ad)) (hg1 : jCN l D vwCl (tyC cy) cy ad ftC ksC (XtC ad) yX6_readAnds (.code yX6_readAnds cX6_readAnds 3 (some .boolean) :: Om) (rm_gq_ dp) 3 (W_X6_readAnds dp ad)) (hg2 : jCN l D vwCl (tyC cy) cy ad ftC ksC (XtC ad) yX6_readNots (.code yX6_readNots cX6_readNots 3 (some .boolean) :: Om) (rm_gq_ dp) 3 (W_X6_readNots dp ad)) (hg3 : jCN l D vwCl (tyC cy) cy ad ftC ksC (XtC ad) yX6_readComparison (.code yX6_readComparison cX6_readComparison 2 (some .boolean) :: Om) (rm_gq_ dp) 3 (W_X6_readComparison dp ad)) (hg4 : jCN l D vwCl (tyC cy) cy ad ftC ksC (XtC ad) yX6_readSums (.code yX6_readSums cX6_readSums 3 (some .boolean) :: Om) (rm_gq_ dp) 3 (W_X6_readSums dp ad)) (hg5 : jCN l D vwCl (tyC cy) cy ad ftC ksC (XtC ad) yX6_readProducts (.code yX6_readProducts cX6_readProducts 3 (some .boolean) :: Om) (rm_gq_ dp) 3 (W_X6_readProducts dp ad)) (hg6 : jCN l D vwCl (tyC cy) cy ad ftC ksC (XtC ad) yX6_readSigned (.code yX6_readSigned cX6_readSigned 3 (some .boolean) :: Om) (rm_gq_ dp) 3 (W_X6_readSigned dp ad)) (hg7 : jCN l D vwCl (tyC cy) cy ad ftC ksC (XtC ad) yX6_readP (.code yX6_readP cX6_readP 3 (some .boolean) :: Om) (rm_gq_ dp) 3 (W_X6_readP dp ad)) (hg8 : jCN l D vwCl (tyC cy) cy ad ftC ksC (XtC ad) yX6_readTail (.code yX6_readTail cX6_readTail 3 (some .boolean) :: Om) (rm_gq_ dp) 3 (W_X6_readTail dp ad)) (hg9 : jCN l D vwCl (tyC cy) cy ad ftC ksC (XtC ad) yX6_readAtom (.code yX6_readAtom cX6_readAtom 1 (some .boolean) :: Om) (rm_gq_ dp) 3 (W_X6_readAtom dp ad)) (hg10 : jCN l D vwCl (tyC cy) cy ad ftC ksC (XtC ad) yX6_readInner (.code yX6_readInner cX6_readInner 1 (some .boolean) :: Om) (rm_gq_ dp) 3 (W_X6_readInner dp ad)) (hg11 : jCN l D vwCl (tyC cy) cy ad ftC ksC (XtC ad) yX6_readFold (.code yX6_readFold cX6_readFold 5 (some .boolean) :: Om) (rm_gq_ dp) 3 (W_X6_readFold dp ad)) (hg12 : jCN l D vwCl (tyC cy) cy ad ftC ksC (XtC ad) yX6_readFoldBody (.code yX6_readFoldBody cX6_readFoldBody 4 (some .boolean) :: Om) (rm_gq_ dp) 3 (W_X6_readFoldBody dp ad)) (hg13 : jCN l D vwCl (tyC cy) cy ad ftC ksC (XtC ad) yX6_readSet (.code yX6_readSet cX6_readSet 3 (some .boolean) :: Om) (rm_gq_ dp) 3 (W_X6_readSet dp ad)) (hg14 : jCN l D vwCl (tyC cy) cy ad ftC ksC (XtC ad) yX6_readWhere (.code yX6_readWhere cX6_readWhere 2 (some .boolean) :: Om) (rm_gq_ dp) 3 (W_X6_readWhere dp ad)) : jCN l D vwCl (tyC cy) cy ad ftC ksC (XtC ad) yX6_readInner (.code yX6_readInner cX6_readInner 1 (some .boolean) :: Om) (rm_gq_ (dp + 1)) 3 (W_X6_readInner (dp + 1) ad) := by
  refine jCN_of (y := yX6_readInner) (cc := cX6_readInner) (nL := 1) (rk := 3) (rm := (rm_gq_ (dp + 1))) (own := RX6) (tyC_ok cy) hin (XtC_ok ad) Om_good (by decide) rfl ?_
  intro Q av M hF
  obtain ⟨c, rfl, hc, hF⟩ := hF
  refine ⟨Nat.le_of_ble_eq_true rfl, fun J hJ => ?_⟩
  show J 0 [(0, .ref (ad c))] [] M
  have hF : b_X6_readInner c (gq_ c dp) Q  M := hF
  unfold b_X6_readInner at hF
  refine j_aload_n hJ dX6_readInner_0 rfl 0 rfl ?_
  refine j_callVz hJ (c_X6_addNest (l := l) (D := D) (cy := cy) (ad := ad) hin) rfl om_675 ⟨rfl, rfl, by show _ ≤ _; simp only [rm_gq_]; omega, by show _ ≤ _; simp only [rm_gq_]; omega⟩ [] mv_X6_156 hd_X6_addNestv (kG_0 hc) rfl rfl rfl (Nat.le_of_ble_eq_true rfl) dX6_readInner_1 ⟨c, rfl, hc, hF⟩ (fun r1 M2 gr1 qM2 => ?_)
  have hF := qM2 gr1
  refine j_if_ne hJ 9 (jz_ri gr1) dX6_readInner_4 (by decide) (fun z3 => ?_) (fun z3 => ?_)
  · have hF := hF.1 z3
    refine j_aload_n hJ dX6_readInner_9 rfl 0 rfl ?_
    refine j_ga hJ (kG_0 hc) fC_9_0 fl_X6_9 dX6_readInner_10 ?_
    refine j_callVv hJ (c_X9_nextWord (l := l) (D := D) (cy := cy) (ad := ad) hin) rfl om_597 ⟨rfl, rfl, by show _ ≤ _; simp only [rm_gq_]; omega, by show _ ≤ _; simp only [rm_gq_]; omega⟩ [] mv_X6_69 hd_X9_nextWordv kC_1 rfl rfl rfl (Nat.le_of_ble_eq_true rfl) dX6_readInner_13 ⟨rfl, hF⟩ (fun M5 qM5 => ?_)
    have hF := qM5
    refine j_aload_n hJ dX6_readInner_16 rfl 0 rfl ?_
    refine j_callVz hJ hg0 rfl om_671 ⟨rfl, rfl, by show _ ≤ _; simp only [rm_gq_]; omega, by show _ ≤ _; simp only [rm_gq_]; omega⟩ [] mv_X6_41 hd_X6_readEv (kG_0 hc) rfl rfl rfl (Nat.le_of_ble_eq_true rfl) dX6_readInner_17 ⟨c, rfl, hc, hF⟩ (fun r6 M7 gr6 qM7 => ?_)
    have hF := qM7 gr6
    refine j_if_eq hJ 31 (jz_ri gr6) dX6_readInner_20 (by decide) (fun z8 => ?_) (fun z8 => ?_)
    · have hF := hF.1 z8
      refine j_iconst hJ dX6_readInner_31 ?_
      exact j_zret hJ rfl (by decide) dX6_readInner_32 hF
    · have hF := hF.2 z8
      refine j_aload_n hJ dX6_readInner_23 rfl 0 rfl ?_
      refine j_iconst hJ dX6_readInner_24 ?_
      refine j_callVz hJ (c_X6_pass (l := l) (D := D) (cy := cy) (ad := ad) hin) rfl om_647 ⟨rfl, rfl, by show _ ≤ _; simp only [rm_gq_]; omega, by show _ ≤ _; simp only [rm_gq_]; omega⟩ [.int (Ii 5)] mv_X6_122 hd_X6_passv (kG_0 hc) rfl rfl rfl (Nat.le_of_ble_eq_true rfl) dX6_readInner_25 ⟨c, 5, rfl, hc, rk_5, hF⟩ (fun r9 M10 gr9 qM10 => ?_)
      have hF := qM10 gr9
      refine j_if_ne hJ 33 (jz_ri gr9) dX6_readInner_28 (by decide) (fun z11 => ?_) (fun z11 => ?_)
      · have hF := hF.1 z11
        refine j_aload_n hJ dX6_readInner_33 rfl 0 rfl ?_
        refine j_dup hJ dX6_readInner_34 rfl ?_
        refine j_gi hJ (kG_0 hc) fC_9_11 rfl fl_X6_90 dX6_readInner_35 (fun v12 ev12 gv12 => ?_)
        have hF := hF v12 ev12 gv12
        refine j_iconst hJ dX6_readInner_38 ?_
        refine j_isub hJ dX6_readInner_39 ?_
        have g13 := hF.1; have hF := hF.2
        refine j_pi hJ g13 (kG_0 hc) fC_9_11 rfl fp_X6_90 dX6_readInner_40 (fun M14 eM14 => ?_)
        have hF := hF M14 eM14
        refine j_iconst hJ dX6_readInner_43 ?_
        exact j_zret hJ rfl (by decide) dX6_readInner_44 hF
      · have hF := hF.2 z11
        refine j_iconst hJ dX6_readInner_31 ?_
        exact j_zret hJ rfl (by decide) dX6_readInner_32 hF
  · have hF := hF.2 z3
    refine j_iconst hJ dX6_readInner_7 ?_
    exact j_zret hJ rfl (by decide) dX6_readInner_8 hF
set_option maxHeartbeats 4000000 in
set_option maxRecDepth 100000 in
theorem s_X6_readFold {l : Launch} {D : va_G} {cy : Nat → ClassId} {ad : Nat → Nat} {dp : Nat} (hin : jIn ad ksC.length) (hg0 : jCN l D vwCl (tyC cy) cy ad ftC ksC (XtC ad) yX6_readE (.code yX6_readE cX6_readE 3 (some .boolean) :: Om) (rm_gq_ dp) 3 (W_X6_readE dp ad)) (hg1 : jCN l D vwCl (tyC cy) cy ad ftC ksC (XtC ad) yX6_readAnds (.code yX6_readAnds cX6_readAnds 3 (some .boolean) :: Om) (rm_gq_ dp) 3 (W_X6_readAnds dp ad)) (hg2 : jCN l D vwCl (tyC cy) cy ad ftC ksC (XtC ad) yX6_readNots (.code yX6_readNots cX6_readNots 3 (some .boolean) :: Om) (rm_gq_ dp) 3 (W_X6_readNots dp ad)) (hg3 : jCN l D vwCl (tyC cy) cy ad ftC ksC (XtC ad) yX6_readComparison (.code yX6_readComparison cX6_readComparison 2 (some .boolean) :: Om) (rm_gq_ dp) 3 (W_X6_readComparison dp ad)) (hg4 : jCN l D vwCl (tyC cy) cy ad ftC ksC (XtC ad) yX6_readSums (.code yX6_readSums cX6_readSums 3 (some .boolean) :: Om) (rm_gq_ dp) 3 (W_X6_readSums dp ad)) (hg5 : jCN l D vwCl (tyC cy) cy ad ftC ksC (XtC ad) yX6_readProducts (.code yX6_readProducts cX6_readProducts 3 (some .boolean) :: Om) (rm_gq_ dp) 3 (W_X6_readProducts dp ad)) (hg6 : jCN l D vwCl (tyC cy) cy ad ftC ksC (XtC ad) yX6_readSigned (.code yX6_readSigned cX6_readSigned 3 (some .boolean) :: Om) (rm_gq_ dp) 3 (W_X6_readSigned dp ad)) (hg7 : jCN l D vwCl (tyC cy) cy ad ftC ksC (XtC ad) yX6_readP (.code yX6_readP cX6_readP 3 (some .boolean) :: Om) (rm_gq_ dp) 3 (W_X6_readP dp ad)) (hg8 : jCN l D vwCl (tyC cy) cy ad ftC ksC (XtC ad) yX6_readTail (.code yX6_readTail cX6_readTail 3 (some .boolean) :: Om) (rm_gq_ dp) 3 (W_X6_readTail dp ad)) (hg9 : jCN l D vwCl (tyC cy) cy ad ftC ksC (XtC ad) yX6_readAtom (.code yX6_readAtom cX6_readAtom 1 (some .boolean) :: Om) (rm_gq_ dp) 3 (W_X6_readAtom dp ad)) (hg10 : jCN l D vwCl (tyC cy) cy ad ftC ksC (XtC ad) yX6_readInner (.code yX6_readInner cX6_readInner 1 (some .boolean) :: Om) (rm_gq_ dp) 3 (W_X6_readInner dp ad)) (hg11 : jCN l D vwCl (tyC cy) cy ad ftC ksC (XtC ad) yX6_readFold (.code yX6_readFold cX6_readFold 5 (some .boolean) :: Om) (rm_gq_ dp) 3 (W_X6_readFold dp ad)) (hg12 : jCN l D vwCl (tyC cy) cy ad ftC ksC (XtC ad) yX6_readFoldBody (.code yX6_readFoldBody cX6_readFoldBody 4 (some .boolean) :: Om) (rm_gq_ dp) 3 (W_X6_readFoldBody dp ad)) (hg13 : jCN l D vwCl (tyC cy) cy ad ftC ksC (XtC ad) yX6_readSet (.code yX6_readSet cX6_readSet 3 (some .boolean) :: Om) (rm_gq_ dp) 3 (W_X6_readSet dp ad)) (hg14 : jCN l D vwCl (tyC cy) cy ad ftC ksC (XtC ad) yX6_readWhere (.code yX6_readWhere cX6_readWhere 2 (some .boolean) :: Om) (rm_gq_ dp) 3 (W_X6_readWhere dp ad)) : jCN l D vwCl (tyC cy) cy ad ftC ksC (XtC ad) yX6_readFold (.code yX6_readFold cX6_readFold 5 (some .boolean) :: Om) (rm_gq_ (dp + 1)) 3 (W_X6_readFold (dp + 1) ad) := by
  refine jCN_of (y := yX6_readFold) (cc := cX6_readFold) (nL := 5) (rk := 3) (rm := (rm_gq_ (dp + 1))) (own := RX6) (tyC_ok cy) hin (XtC_ok ad) Om_good (by decide) rfl ?_
  intro Q av M hF
  obtain ⟨c, rfl, hc, hF⟩ := hF
  refine ⟨Nat.le_of_ble_eq_true rfl, fun J hJ => ?_⟩
  show J 0 [(0, .ref (ad c))] [] M
  have hF : b_X6_readFold c (gq_ c dp) Q  M := hF
  unfold b_X6_readFold at hF
  refine j_aload_n hJ dX6_readFold_0 rfl 0 rfl ?_
  refine j_ga hJ (kG_0 hc) fC_9_0 fl_X6_9 dX6_readFold_1 ?_
  refine j_gi hJ kC_1 fC_12_9 rfl fl_X6_45 dX6_readFold_4 (fun v1 ev1 gv1 => ?_)
  have hF := hF v1 ev1 gv1
  refine j_istore_n (lv' := [(1, .int (Ii v1)), (0, .ref (ad c))]) hJ dX6_readFold_7 rfl (by decide) rfl ?_
  refine j_aload_n hJ dX6_readFold_8 rfl 1 rfl ?_
  refine j_callVz hJ (c_X6_addNode (l := l) (D := D) (cy := cy) (ad := ad) hin) rfl om_618 ⟨rfl, rfl, by show _ ≤ _; simp only [rm_gq_]; omega, by show _ ≤ _; simp only [rm_gq_]; omega⟩ [] mv_X6_115 hd_X6_addNodev (kG_0 hc) rfl rfl rfl (Nat.le_of_ble_eq_true rfl) dX6_readFold_9 ⟨c, rfl, hc, hF⟩ (fun r2 M3 gr2 qM3 => ?_)
  have hF := qM3 gr2
  refine j_if_eq hJ 22 (jz_ri gr2) dX6_readFold_12 (by decide) (fun z4 => ?_) (fun z4 => ?_)
  · have hF := hF.1 z4
    refine j_iconst hJ dX6_readFold_22 ?_
    exact j_zret hJ rfl (by decide) dX6_readFold_23 hF
  · have hF := hF.2 z4
    refine j_aload_n hJ dX6_readFold_15 rfl 1 rfl ?_
    refine j_callVz hJ (c_X6_addNest (l := l) (D := D) (cy := cy) (ad := ad) hin) rfl om_675 ⟨rfl, rfl, by show _ ≤ _; simp only [rm_gq_]; omega, by show _ ≤ _; simp only [rm_gq_]; omega⟩ [] mv_X6_156 hd_X6_addNestv (kG_0 hc) rfl rfl rfl (Nat.le_of_ble_eq_true rfl) dX6_readFold_16 ⟨c, rfl, hc, hF⟩ (fun r5 M6 gr5 qM6 => ?_)
    have hF := qM6 gr5
    refine j_if_ne hJ 24 (jz_ri gr5) dX6_readFold_19 (by decide) (fun z7 => ?_) (fun z7 => ?_)
    · have hF := hF.1 z7
      refine j_aload_n hJ dX6_readFold_24 rfl 1 rfl ?_
      refine j_ga hJ (kG_0 hc) fC_9_0 fl_X6_9 dX6_readFold_25 ?_
      refine j_callVv hJ (c_X9_nextWord (l := l) (D := D) (cy := cy) (ad := ad) hin) rfl om_597 ⟨rfl, rfl, by show _ ≤ _; simp only [rm_gq_]; omega, by show _ ≤ _; simp only [rm_gq_]; omega⟩ [] mv_X6_69 hd_X9_nextWordv kC_1 rfl rfl rfl (Nat.le_of_ble_eq_true rfl) dX6_readFold_28 ⟨rfl, hF⟩ (fun M9 qM9 => ?_)
      have hF := qM9
      refine j_aload_n hJ dX6_readFold_31 rfl 1 rfl ?_
      refine j_iconst hJ dX6_readFold_32 ?_
      refine j_callVz hJ (c_X6_pass (l := l) (D := D) (cy := cy) (ad := ad) hin) rfl om_647 ⟨rfl, rfl, by show _ ≤ _; simp only [rm_gq_]; omega, by show _ ≤ _; simp only [rm_gq_]; omega⟩ [.int (Ii 4)] mv_X6_122 hd_X6_passv (kG_0 hc) rfl rfl rfl (Nat.le_of_ble_eq_true rfl) dX6_readFold_33 ⟨c, 4, rfl, hc, rk_4, hF⟩ (fun r10 M11 gr10 qM11 => ?_)
      have hF := qM11 gr10
      refine j_if_ne hJ 41 (jz_ri gr10) dX6_readFold_36 (by decide) (fun z12 => ?_) (fun z12 => ?_)
      · have hF := hF.1 z12
        refine j_aload_n hJ dX6_readFold_41 rfl 1 rfl ?_
        refine j_ga hJ (kG_0 hc) fC_9_0 fl_X6_9 dX6_readFold_42 ?_
        refine j_gl hJ kC_1 fC_12_11 rfl fl_X6_118 dX6_readFold_45 (fun v13 ev13 gv13 => ?_)
        have hF := hF v13 ev13 gv13
        refine j_lstore_n (lv' := [(2, .long (Ll v13)), (1, .int (Ii v1)), (0, .ref (ad c))]) hJ dX6_readFold_48 rfl (by decide) rfl ?_
        refine j_aload_n hJ dX6_readFold_49 rfl 2 rfl ?_
        refine j_iconst hJ dX6_readFold_50 ?_
        refine j_callVz hJ (c_X6_pass (l := l) (D := D) (cy := cy) (ad := ad) hin) rfl om_647 ⟨rfl, rfl, by show _ ≤ _; simp only [rm_gq_]; omega, by show _ ≤ _; simp only [rm_gq_]; omega⟩ [.int (Ii 2)] mv_X6_122 hd_X6_passv (kG_0 hc) rfl rfl rfl (Nat.le_of_ble_eq_true rfl) dX6_readFold_51 ⟨c, 2, rfl, hc, rk_2, hF⟩ (fun r14 M15 gr14 qM15 => ?_)
        have hF := qM15 gr14
        refine j_if_eq hJ 66 (jz_ri gr14) dX6_readFold_54 (by decide) (fun z16 => ?_) (fun z16 => ?_)
        · have hF := hF.1 z16
          refine j_iconst hJ dX6_readFold_66 ?_
          exact j_zret hJ rfl (by decide) dX6_readFold_67 hF
        · have hF := hF.2 z16
          refine j_aload_n hJ dX6_readFold_57 rfl 2 rfl ?_
          refine j_bipush hJ dX6_readFold_58 (by decide) ?_
          refine j_callVz hJ (c_X6_pass (l := l) (D := D) (cy := cy) (ad := ad) hin) rfl om_647 ⟨rfl, rfl, by show _ ≤ _; simp only [rm_gq_]; omega, by show _ ≤ _; simp only [rm_gq_]; omega⟩ [.int (Ii 43)] mv_X6_122 hd_X6_passv (kG_0 hc) rfl rfl rfl (Nat.le_of_ble_eq_true rfl) dX6_readFold_60 ⟨c, 43, rfl, hc, rk_43, hF⟩ (fun r17 M18 gr17 qM18 => ?_)
          have hF := qM18 gr17
          refine j_if_ne hJ 68 (jz_ri gr17) dX6_readFold_63 (by decide) (fun z19 => ?_) (fun z19 => ?_)
          · have hF := hF.1 z19
            refine j_aload_n hJ dX6_readFold_68 rfl 2 rfl ?_
            refine j_dup hJ dX6_readFold_69 rfl ?_
            refine j_gi hJ (kG_0 hc) fC_9_12 rfl fl_X6_93 dX6_readFold_70 (fun v20 ev20 gv20 => ?_)
            have hF := hF v20 ev20 gv20
            refine j_iconst hJ dX6_readFold_73 ?_
            refine j_iadd hJ dX6_readFold_74 ?_
            have g21 := hF.1; have hF := hF.2
            refine j_pi hJ g21 (kG_0 hc) fC_9_12 rfl fp_X6_93 dX6_readFold_75 (fun M22 eM22 => ?_)
            have hF := hF M22 eM22
            refine j_aload_n hJ dX6_readFold_78 rfl 2 rfl ?_
            refine j_gi hJ (kG_0 hc) fC_9_12 rfl fl_X6_93 dX6_readFold_79 (fun v23 ev23 gv23 => ?_)
            have hF := hF v23 ev23 gv23
            refine j_istore (lv' := [(4, .int (Ii v23)), (2, .long (Ll v13)), (1, .int (Ii v1)), (0, .ref (ad c))]) hJ dX6_readFold_82 (by decide) rfl ?_
            refine j_aload_n hJ dX6_readFold_84 rfl 3 rfl ?_
            refine j_bipush hJ dX6_readFold_85 (by decide) ?_
            refine j_iload hJ dX6_readFold_87 0 rfl ?_
            refine j_iconst hJ dX6_readFold_89 ?_
            refine j_iload_n hJ dX6_readFold_90 rfl 2 rfl ?_
            refine j_i2l hJ gv1 dX6_readFold_91 ?_
            refine j_callVi hJ (c_X6_emit (l := l) (D := D) (cy := cy) (ad := ad) hin) rfl om_623 ⟨rfl, rfl, by show _ ≤ _; simp only [rm_gq_]; omega, by show _ ≤ _; simp only [rm_gq_]; omega⟩ [.int (Ii 6), .int (Ii v23), .int (Ii 0), .long (Ll v1)] mv_X6_58 hd_X6_emitv (kG_0 hc) rfl rfl rfl (Nat.le_of_ble_eq_true rfl) dX6_readFold_92 ⟨c, 6, v23, 0, v1, rfl, hc, rk_6, gv23, rk_0, (rl_ri gv1), hF⟩ (fun r24 M25 gr24 qM25 => ?_)
            have hF := qM25 gr24
            refine j_pop hJ dX6_readFold_95 rfl ?_
            refine j_aload_n hJ dX6_readFold_96 rfl 3 rfl ?_
            refine j_iload hJ dX6_readFold_97 0 rfl ?_
            refine j_callVz hJ hg13 rfl om_699 ⟨rfl, rfl, by show _ ≤ _; simp only [rm_gq_]; omega, by show _ ≤ _; simp only [rm_gq_]; omega⟩ [.int (Ii v23)] mv_X6_54 hd_X6_readSetv (kG_0 hc) rfl rfl rfl (Nat.le_of_ble_eq_true rfl) dX6_readFold_99 ⟨c, v23, rfl, hc, gv23, hF⟩ (fun r26 M27 gr26 qM27 => ?_)
            have hF := qM27 gr26
            refine j_if_ne hJ 107 (jz_ri gr26) dX6_readFold_102 (by decide) (fun z28 => ?_) (fun z28 => ?_)
            · have hF := hF.1 z28
              refine j_aload_n hJ dX6_readFold_107 rfl 3 rfl ?_
              refine j_gr (e := (c + 5)) hJ (kG_0 hc) fC_9_14 fl_X6_29 dX6_readFold_108 rfl ?_
              refine j_aload_n hJ dX6_readFold_111 rfl 3 rfl ?_
              refine j_gi hJ (kG_0 hc) fC_9_16 rfl fl_X6_96 dX6_readFold_112 (fun v29 ev29 gv29 => ?_)
              have hF := hF v29 ev29 gv29
              refine j_lload_n hJ dX6_readFold_115 rfl 1 rfl ?_
              refine j_last hJ gv29 gv13 (kG_5 hc) hF.1 hF.2.1 dX6_readFold_116 (fun M30 eM30 => ?_)
              have hF := hF.2.2 M30 eM30
              refine j_aload_n hJ dX6_readFold_117 rfl 3 rfl ?_
              refine j_gr (e := (c + 6)) hJ (kG_0 hc) fC_9_15 fl_X6_32 dX6_readFold_118 rfl ?_
              refine j_aload_n hJ dX6_readFold_121 rfl 3 rfl ?_
              refine j_gi hJ (kG_0 hc) fC_9_16 rfl fl_X6_96 dX6_readFold_122 (fun v31 ev31 gv31 => ?_)
              have hF := hF v31 ev31 gv31
              refine j_iload hJ dX6_readFold_125 0 rfl ?_
              refine j_iast hJ gv31 gv23 (kG_6 hc) hF.1 hF.2.1 dX6_readFold_127 (fun M32 eM32 => ?_)
              have hF := hF.2.2 M32 eM32
              refine j_aload_n hJ dX6_readFold_128 rfl 3 rfl ?_
              refine j_dup hJ dX6_readFold_129 rfl ?_
              refine j_gi hJ (kG_0 hc) fC_9_16 rfl fl_X6_96 dX6_readFold_130 (fun v33 ev33 gv33 => ?_)
              have hF := hF v33 ev33 gv33
              refine j_iconst hJ dX6_readFold_133 ?_
              refine j_iadd hJ dX6_readFold_134 ?_
              have g34 := hF.1; have hF := hF.2
              refine j_pi hJ g34 (kG_0 hc) fC_9_16 rfl fp_X6_96 dX6_readFold_135 (fun M35 eM35 => ?_)
              have hF := hF M35 eM35
              refine j_aload_n hJ dX6_readFold_138 rfl 3 rfl ?_
              refine j_iload_n hJ dX6_readFold_139 rfl 2 rfl ?_
              refine j_iload hJ dX6_readFold_140 0 rfl ?_
              refine j_callVz hJ hg12 rfl om_703 ⟨rfl, rfl, by show _ ≤ _; simp only [rm_gq_]; omega, by show _ ≤ _; simp only [rm_gq_]; omega⟩ [.int (Ii v1), .int (Ii v23)] mv_X6_175 hd_X6_readFoldBodyv (kG_0 hc) rfl rfl rfl (Nat.le_of_ble_eq_true rfl) dX6_readFold_142 ⟨c, v1, v23, rfl, hc, gv1, gv23, hF⟩ (fun r36 M37 gr36 qM37 => ?_)
              have hF := qM37 gr36
              refine j_if_ne hJ 150 (jz_ri gr36) dX6_readFold_145 (by decide) (fun z38 => ?_) (fun z38 => ?_)
              · have hF := hF.1 z38
                refine j_aload_n hJ dX6_readFold_150 rfl 3 rfl ?_
                refine j_dup hJ dX6_readFold_151 rfl ?_
                refine j_gi hJ (kG_0 hc) fC_9_16 rfl fl_X6_96 dX6_readFold_152 (fun v39 ev39 gv39 => ?_)
                have hF := hF v39 ev39 gv39
                refine j_iconst hJ dX6_readFold_155 ?_
                refine j_isub hJ dX6_readFold_156 ?_
                have g40 := hF.1; have hF := hF.2
                refine j_pi hJ g40 (kG_0 hc) fC_9_16 rfl fp_X6_96 dX6_readFold_157 (fun M41 eM41 => ?_)
                have hF := hF M41 eM41
                refine j_aload_n hJ dX6_readFold_160 rfl 3 rfl ?_
                refine j_dup hJ dX6_readFold_161 rfl ?_
                refine j_gi hJ (kG_0 hc) fC_9_12 rfl fl_X6_93 dX6_readFold_162 (fun v42 ev42 gv42 => ?_)
                have hF := hF v42 ev42 gv42
                refine j_iconst hJ dX6_readFold_165 ?_
                refine j_isub hJ dX6_readFold_166 ?_
                have g43 := hF.1; have hF := hF.2
                refine j_pi hJ g43 (kG_0 hc) fC_9_12 rfl fp_X6_93 dX6_readFold_167 (fun M44 eM44 => ?_)
                have hF := hF M44 eM44
                refine j_aload_n hJ dX6_readFold_170 rfl 3 rfl ?_
                refine j_dup hJ dX6_readFold_171 rfl ?_
                refine j_gi hJ (kG_0 hc) fC_9_11 rfl fl_X6_90 dX6_readFold_172 (fun v45 ev45 gv45 => ?_)
                have hF := hF v45 ev45 gv45
                refine j_iconst hJ dX6_readFold_175 ?_
                refine j_isub hJ dX6_readFold_176 ?_
                have g46 := hF.1; have hF := hF.2
                refine j_pi hJ g46 (kG_0 hc) fC_9_11 rfl fp_X6_90 dX6_readFold_177 (fun M47 eM47 => ?_)
                have hF := hF M47 eM47
                refine j_iconst hJ dX6_readFold_180 ?_
                exact j_zret hJ rfl (by decide) dX6_readFold_181 hF
              · have hF := hF.2 z38
                refine j_iconst hJ dX6_readFold_148 ?_
                exact j_zret hJ rfl (by decide) dX6_readFold_149 hF
            · have hF := hF.2 z28
              refine j_iconst hJ dX6_readFold_105 ?_
              exact j_zret hJ rfl (by decide) dX6_readFold_106 hF
          · have hF := hF.2 z19
            refine j_iconst hJ dX6_readFold_66 ?_
            exact j_zret hJ rfl (by decide) dX6_readFold_67 hF
      · have hF := hF.2 z12
        refine j_iconst hJ dX6_readFold_39 ?_
        exact j_zret hJ rfl (by decide) dX6_readFold_40 hF
    · have hF := hF.2 z7
      refine j_iconst hJ dX6_readFold_22 ?_
      exact j_zret hJ rfl (by decide) dX6_readFold_23 hF
set_option maxHeartbeats 4000000 in
set_option maxRecDepth 100000 in
theorem k_X6_readFoldBody_b44 {l : Launch} {D : va_G} {cy : Nat → ClassId} {ad : Nat → Nat} {dp : Nat} {Q : Int → MM → Prop} {J : Nat → List (Nat × Value) → List Value → MM → Prop} (hin : jIn ad ksC.length) {c : Nat} (hc : isG c) (hg0 : jCN l D vwCl (tyC cy) cy ad ftC ksC (XtC ad) yX6_readE (.code yX6_readE cX6_readE 3 (some .boolean) :: Om) (rm_gq_ dp) 3 (W_X6_readE dp ad)) (hg1 : jCN l D vwCl (tyC cy) cy ad ftC ksC (XtC ad) yX6_readAnds (.code yX6_readAnds cX6_readAnds 3 (some .boolean) :: Om) (rm_gq_ dp) 3 (W_X6_readAnds dp ad)) (hg2 : jCN l D vwCl (tyC cy) cy ad ftC ksC (XtC ad) yX6_readNots (.code yX6_readNots cX6_readNots 3 (some .boolean) :: Om) (rm_gq_ dp) 3 (W_X6_readNots dp ad)) (hg3 : jCN l D vwCl (tyC cy) cy ad ftC ksC (XtC ad) yX6_readComparison (.code yX6_readComparison cX6_readComparison 2 (some .boolean) :: Om) (rm_gq_ dp) 3 (W_X6_readComparison dp ad)) (hg4 : jCN l D vwCl (tyC cy) cy ad ftC ksC (XtC ad) yX6_readSums (.code yX6_readSums cX6_readSums 3 (some .boolean) :: Om) (rm_gq_ dp) 3 (W_X6_readSums dp ad)) (hg5 : jCN l D vwCl (tyC cy) cy ad ftC ksC (XtC ad) yX6_readProducts (.code yX6_readProducts cX6_readProducts 3 (some .boolean) :: Om) (rm_gq_ dp) 3 (W_X6_readProducts dp ad)) (hg6 : jCN l D vwCl (tyC cy) cy ad ftC ksC (XtC ad) yX6_readSigned (.code yX6_readSigned cX6_readSigned 3 (some .boolean) :: Om) (rm_gq_ dp) 3 (W_X6_readSigned dp ad)) (hg7 : jCN l D vwCl (tyC cy) cy ad ftC ksC (XtC ad) yX6_readP (.code yX6_readP cX6_readP 3 (some .boolean) :: Om) (rm_gq_ dp) 3 (W_X6_readP dp ad)) (hg8 : jCN l D vwCl (tyC cy) cy ad ftC ksC (XtC ad) yX6_readTail (.code yX6_readTail cX6_readTail 3 (some .boolean) :: Om) (rm_gq_ dp) 3 (W_X6_readTail dp ad)) (hg9 : jCN l D vwCl (tyC cy) cy ad ftC ksC (XtC ad) yX6_readAtom (.code yX6_readAtom cX6_readAtom 1 (some .boolean) :: Om) (rm_gq_ dp) 3 (W_X6_readAtom dp ad)) (hg10 : jCN l D vwCl (tyC cy) cy ad ftC ksC (XtC ad) yX6_readInner (.code yX6_readInner cX6_readInner 1 (some .boolean) :: Om) (rm_gq_ dp) 3 (W_X6_readInner dp ad)) (hg11 : jCN l D vwCl (tyC cy) cy ad ftC ksC (XtC ad) yX6_readFold (.code yX6_readFold cX6_readFold 5 (some .boolean) :: Om) (rm_gq_ dp) 3 (W_X6_readFold dp ad)) (hg12 : jCN l D vwCl (tyC cy) cy ad ftC ksC (XtC ad) yX6_readFoldBody (.code yX6_readFoldBody cX6_readFoldBody 4 (some .boolean) :: Om) (rm_gq_ dp) 3 (W_X6_readFoldBody dp ad)) (hg13 : jCN l D vwCl (tyC cy) cy ad ftC ksC (XtC ad) yX6_readSet (.code yX6_readSet cX6_readSet 3 (some .boolean) :: Om) (rm_gq_ dp) 3 (W_X6_readSet dp ad)) (hg14 : jCN l D vwCl (tyC cy) cy ad ftC ksC (XtC ad) yX6_readWhere (.code yX6_readWhere cX6_readWhere 2 (some .boolean) :: Om) (rm_gq_ dp) 3 (W_X6_readWhere dp ad)) (hJ : jOk l D vwCl (tyC cy) cy ad ftC ksC (XtC ad) Om RX6 cX6_readFoldBody 4 3 (rm_gq_ (dp + 1)) Q J)  : ∀ (x1 x2 x3 : Int) (M : MM), ri_ x1 → ri_ x2 → ri_ x3 → w_X6_readFoldBody_b44 c (gq_ c dp) Q  x1 x2 x3 M → J 44 [(0, .ref (ad c)), (1, .int (Ii x1)), (2, .int (Ii x2)), (3, .int (Ii x3))] [] M := by
  intro x1 x2 x3 M gx1 gx2 gx3 hF
  unfold w_X6_readFoldBody_b44 at hF
  refine j_aload_n hJ dX6_readFoldBody_44 rfl 0 rfl ?_
  refine j_bipush hJ dX6_readFoldBody_45 (by decide) ?_
  refine j_iload_n hJ dX6_readFoldBody_47 rfl 2 rfl ?_
  refine j_iload_n hJ dX6_readFoldBody_48 rfl 3 rfl ?_
  refine j_iload_n hJ dX6_readFoldBody_49 rfl 1 rfl ?_
  refine j_i2l hJ gx1 dX6_readFoldBody_50 ?_
  refine j_callVi hJ (c_X6_emit (l := l) (D := D) (cy := cy) (ad := ad) hin) rfl om_623 ⟨rfl, rfl, by show _ ≤ _; simp only [rm_gq_]; omega, by show _ ≤ _; simp only [rm_gq_]; omega⟩ [.int (Ii 38), .int (Ii x2), .int (Ii x3), .long (Ll x1)] mv_X6_58 hd_X6_emitv (kG_0 hc) rfl rfl rfl (Nat.le_of_ble_eq_true rfl) dX6_readFoldBody_51 ⟨c, 38, x2, x3, x1, rfl, hc, rk_38, gx2, gx3, (rl_ri gx1), hF⟩ (fun r1 M2 gr1 qM2 => ?_)
  have hF := qM2 gr1
  refine j_pop hJ dX6_readFoldBody_54 rfl ?_
  refine j_aload_n hJ dX6_readFoldBody_55 rfl 0 rfl ?_
  refine j_gr (e := (c + 3)) hJ (kG_0 hc) fC_9_3 fl_X6_22 dX6_readFoldBody_56 rfl ?_
  refine j_iload_n hJ dX6_readFoldBody_59 rfl 3 rfl ?_
  refine j_aload_n hJ dX6_readFoldBody_60 rfl 0 rfl ?_
  refine j_gi hJ (kG_0 hc) fC_9_5 rfl fl_X6_72 dX6_readFoldBody_61 (fun v3 ev3 gv3 => ?_)
  have hF := hF v3 ev3 gv3
  refine j_iast hJ gx3 gv3 (kG_3 hc) hF.1 hF.2.1 dX6_readFoldBody_64 (fun M4 eM4 => ?_)
  have hF := hF.2.2 M4 eM4
  refine j_aload_n hJ dX6_readFoldBody_65 rfl 0 rfl ?_
  refine j_bipush hJ dX6_readFoldBody_66 (by decide) ?_
  refine j_iload_n hJ dX6_readFoldBody_68 rfl 2 rfl ?_
  refine j_iconst hJ dX6_readFoldBody_69 ?_
  refine j_iload_n hJ dX6_readFoldBody_70 rfl 1 rfl ?_
  refine j_i2l hJ gx1 dX6_readFoldBody_71 ?_
  refine j_callVi hJ (c_X6_emit (l := l) (D := D) (cy := cy) (ad := ad) hin) rfl om_623 ⟨rfl, rfl, by show _ ≤ _; simp only [rm_gq_]; omega, by show _ ≤ _; simp only [rm_gq_]; omega⟩ [.int (Ii 39), .int (Ii x2), .int (Ii 0), .long (Ll x1)] mv_X6_58 hd_X6_emitv (kG_0 hc) rfl rfl rfl (Nat.le_of_ble_eq_true rfl) dX6_readFoldBody_72 ⟨c, 39, x2, 0, x1, rfl, hc, rk_39, gx2, rk_0, (rl_ri gx1), hF⟩ (fun r5 M6 gr5 qM6 => ?_)
  have hF := qM6 gr5
  refine j_pop hJ dX6_readFoldBody_75 rfl ?_
  refine j_aload_n hJ dX6_readFoldBody_76 rfl 0 rfl ?_
  refine j_iconst hJ dX6_readFoldBody_77 ?_
  refine j_callVz hJ (c_X6_pass (l := l) (D := D) (cy := cy) (ad := ad) hin) rfl om_647 ⟨rfl, rfl, by show _ ≤ _; simp only [rm_gq_]; omega, by show _ ≤ _; simp only [rm_gq_]; omega⟩ [.int (Ii 5)] mv_X6_122 hd_X6_passv (kG_0 hc) rfl rfl rfl (Nat.le_of_ble_eq_true rfl) dX6_readFoldBody_78 ⟨c, 5, rfl, hc, rk_5, hF⟩ (fun r7 M8 gr7 qM8 => ?_)
  have hF := qM8 gr7
  exact j_zret hJ rfl gr7 dX6_readFoldBody_81 hF
set_option maxHeartbeats 4000000 in
set_option maxRecDepth 100000 in
theorem s_X6_readFoldBody {l : Launch} {D : va_G} {cy : Nat → ClassId} {ad : Nat → Nat} {dp : Nat} (hin : jIn ad ksC.length) (hg0 : jCN l D vwCl (tyC cy) cy ad ftC ksC (XtC ad) yX6_readE (.code yX6_readE cX6_readE 3 (some .boolean) :: Om) (rm_gq_ dp) 3 (W_X6_readE dp ad)) (hg1 : jCN l D vwCl (tyC cy) cy ad ftC ksC (XtC ad) yX6_readAnds (.code yX6_readAnds cX6_readAnds 3 (some .boolean) :: Om) (rm_gq_ dp) 3 (W_X6_readAnds dp ad)) (hg2 : jCN l D vwCl (tyC cy) cy ad ftC ksC (XtC ad) yX6_readNots (.code yX6_readNots cX6_readNots 3 (some .boolean) :: Om) (rm_gq_ dp) 3 (W_X6_readNots dp ad)) (hg3 : jCN l D vwCl (tyC cy) cy ad ftC ksC (XtC ad) yX6_readComparison (.code yX6_readComparison cX6_readComparison 2 (some .boolean) :: Om) (rm_gq_ dp) 3 (W_X6_readComparison dp ad)) (hg4 : jCN l D vwCl (tyC cy) cy ad ftC ksC (XtC ad) yX6_readSums (.code yX6_readSums cX6_readSums 3 (some .boolean) :: Om) (rm_gq_ dp) 3 (W_X6_readSums dp ad)) (hg5 : jCN l D vwCl (tyC cy) cy ad ftC ksC (XtC ad) yX6_readProducts (.code yX6_readProducts cX6_readProducts 3 (some .boolean) :: Om) (rm_gq_ dp) 3 (W_X6_readProducts dp ad)) (hg6 : jCN l D vwCl (tyC cy) cy ad ftC ksC (XtC ad) yX6_readSigned (.code yX6_readSigned cX6_readSigned 3 (some .boolean) :: Om) (rm_gq_ dp) 3 (W_X6_readSigned dp ad)) (hg7 : jCN l D vwCl (tyC cy) cy ad ftC ksC (XtC ad) yX6_readP (.code yX6_readP cX6_readP 3 (some .boolean) :: Om) (rm_gq_ dp) 3 (W_X6_readP dp ad)) (hg8 : jCN l D vwCl (tyC cy) cy ad ftC ksC (XtC ad) yX6_readTail (.code yX6_readTail cX6_readTail 3 (some .boolean) :: Om) (rm_gq_ dp) 3 (W_X6_readTail dp ad)) (hg9 : jCN l D vwCl (tyC cy) cy ad ftC ksC (XtC ad) yX6_readAtom (.code yX6_readAtom cX6_readAtom 1 (some .boolean) :: Om) (rm_gq_ dp) 3 (W_X6_readAtom dp ad)) (hg10 : jCN l D vwCl (tyC cy) cy ad ftC ksC (XtC ad) yX6_readInner (.code yX6_readInner cX6_readInner 1 (some .boolean) :: Om) (rm_gq_ dp) 3 (W_X6_readInner dp ad)) (hg11 : jCN l D vwCl (tyC cy) cy ad ftC ksC (XtC ad) yX6_readFold (.code yX6_readFold cX6_readFold 5 (some .boolean) :: Om) (rm_gq_ dp) 3 (W_X6_readFold dp ad)) (hg12 : jCN l D vwCl (tyC cy) cy ad ftC ksC (XtC ad) yX6_readFoldBody (.code yX6_readFoldBody cX6_readFoldBody 4 (some .boolean) :: Om) (rm_gq_ dp) 3 (W_X6_readFoldBody dp ad)) (hg13 : jCN l D vwCl (tyC cy) cy ad ftC ksC (XtC ad) yX6_readSet (.code yX6_readSet cX6_readSet 3 (some .boolean) :: Om) (rm_gq_ dp) 3 (W_X6_readSet dp ad)) (hg14 : jCN l D vwCl (tyC cy) cy ad ftC ksC (XtC ad) yX6_readWhere (.code yX6_readWhere cX6_readWhere 2 (some .boolean) :: Om) (rm_gq_ dp) 3 (W_X6_readWhere dp ad)) : jCN l D vwCl (tyC cy) cy ad ftC ksC (XtC ad) yX6_readFoldBody (.code yX6_readFoldBody cX6_readFoldBody 4 (some .boolean) :: Om) (rm_gq_ (dp + 1)) 3 (W_X6_readFoldBody (dp + 1) ad) := by
  refine jCN_of (y := yX6_readFoldBody) (cc := cX6_readFoldBody) (nL := 4) (rk := 3) (rm := (rm_gq_ (dp + 1))) (own := RX6) (tyC_ok cy) hin (XtC_ok ad) Om_good (by decide) rfl ?_
  intro Q av M hF
  obtain ⟨c, p1, p2, rfl, hc, gp1, gp2, hF⟩ := hF
  refine ⟨Nat.le_of_ble_eq_true rfl, fun J hJ => ?_⟩
  show J 0 [(0, .ref (ad c)), (1, .int (Ii p1)), (2, .int (Ii p2))] [] M
  have hF : b_X6_readFoldBody c (gq_ c dp) Q p1 p2 M := hF
  unfold b_X6_readFoldBody at hF
  refine j_aload_n hJ dX6_readFoldBody_0 rfl 0 rfl ?_
  refine j_bipush hJ dX6_readFoldBody_1 (by decide) ?_
  refine j_iload_n hJ dX6_readFoldBody_3 rfl 2 rfl ?_
  refine j_iconst hJ dX6_readFoldBody_4 ?_
  refine j_lconst (x := 0) hJ dX6_readFoldBody_5 rfl ?_
  refine j_callVi hJ (c_X6_emit (l := l) (D := D) (cy := cy) (ad := ad) hin) rfl om_623 ⟨rfl, rfl, by show _ ≤ _; simp only [rm_gq_]; omega, by show _ ≤ _; simp only [rm_gq_]; omega⟩ [.int (Ii 36), .int (Ii p2), .int (Ii 0), .long (Ll 0)] mv_X6_58 hd_X6_emitv (kG_0 hc) rfl rfl rfl (Nat.le_of_ble_eq_true rfl) dX6_readFoldBody_6 ⟨c, 36, p2, 0, 0, rfl, hc, rk_36, gp2, rk_0, lkm_0, hF⟩ (fun r1 M2 gr1 qM2 => ?_)
  have hF := qM2 gr1
  refine j_istore_n (lv' := [(3, .int (Ii r1)), (0, .ref (ad c)), (1, .int (Ii p1)), (2, .int (Ii p2))]) hJ dX6_readFoldBody_9 rfl (by decide) rfl ?_
  refine j_aload_n hJ dX6_readFoldBody_10 rfl 1 rfl ?_
  refine j_iload_n hJ dX6_readFoldBody_11 rfl 0 rfl ?_
  refine j_callVz hJ hg14 rfl om_707 ⟨rfl, rfl, by show _ ≤ _; simp only [rm_gq_]; omega, by show _ ≤ _; simp only [rm_gq_]; omega⟩ [.int (Ii r1)] mv_X6_66 hd_X6_readWherev (kG_0 hc) rfl rfl rfl (Nat.le_of_ble_eq_true rfl) dX6_readFoldBody_12 ⟨c, r1, rfl, hc, gr1, hF⟩ (fun r3 M4 gr3 qM4 => ?_)
  have hF := qM4 gr3
  refine j_if_ne hJ 20 (jz_ri gr3) dX6_readFoldBody_15 (by decide) (fun z5 => ?_) (fun z5 => ?_)
  · have hF := hF.1 z5
    refine j_iload_n hJ dX6_readFoldBody_20 rfl 2 rfl ?_
    refine j_bipush hJ dX6_readFoldBody_21 (by decide) ?_
    refine j_icmp_eq hJ 44 gp1 rk_44 dX6_readFoldBody_23 (by decide) (fun z6 => ?_) (fun z6 => ?_)
    · have hF := hF.1 z6
      exact j_sub hJ [1, 2, 3, 0] rfl (k_X6_readFoldBody_b44 hin hc hg0 hg1 hg2 hg3 hg4 hg5 hg6 hg7 hg8 hg9 hg10 hg11 hg12 hg13 hg14 hJ  p1 p2 r1 _ gp1 gp2 gr1 hF)
    · have hF := hF.2 z6
      refine j_aload_n hJ dX6_readFoldBody_26 rfl 1 rfl ?_
      refine j_bipush hJ dX6_readFoldBody_27 (by decide) ?_
      refine j_callVz hJ (c_X6_pass (l := l) (D := D) (cy := cy) (ad := ad) hin) rfl om_647 ⟨rfl, rfl, by show _ ≤ _; simp only [rm_gq_]; omega, by show _ ≤ _; simp only [rm_gq_]; omega⟩ [.int (Ii 9)] mv_X6_122 hd_X6_passv (kG_0 hc) rfl rfl rfl (Nat.le_of_ble_eq_true rfl) dX6_readFoldBody_29 ⟨c, 9, rfl, hc, rk_9, hF⟩ (fun r7 M8 gr7 qM8 => ?_)
      have hF := qM8 gr7
      refine j_if_eq hJ 42 (jz_ri gr7) dX6_readFoldBody_32 (by decide) (fun z9 => ?_) (fun z9 => ?_)
      · have hF := hF.1 z9
        refine j_iconst hJ dX6_readFoldBody_42 ?_
        exact j_zret hJ rfl (by decide) dX6_readFoldBody_43 hF
      · have hF := hF.2 z9
        refine j_aload_n hJ dX6_readFoldBody_35 rfl 1 rfl ?_
        refine j_callVz hJ hg0 rfl om_671 ⟨rfl, rfl, by show _ ≤ _; simp only [rm_gq_]; omega, by show _ ≤ _; simp only [rm_gq_]; omega⟩ [] mv_X6_41 hd_X6_readEv (kG_0 hc) rfl rfl rfl (Nat.le_of_ble_eq_true rfl) dX6_readFoldBody_36 ⟨c, rfl, hc, hF⟩ (fun r10 M11 gr10 qM11 => ?_)
        have hF := qM11 gr10
        refine j_if_ne hJ 44 (jz_ri gr10) dX6_readFoldBody_39 (by decide) (fun z12 => ?_) (fun z12 => ?_)
        · have hF := hF.1 z12
          exact j_sub hJ [1, 2, 3, 0] rfl (k_X6_readFoldBody_b44 hin hc hg0 hg1 hg2 hg3 hg4 hg5 hg6 hg7 hg8 hg9 hg10 hg11 hg12 hg13 hg14 hJ  p1 p2 r1 _ gp1 gp2 gr1 hF)
        · have hF := hF.2 z12
          refine j_iconst hJ dX6_readFoldBody_42 ?_
          exact j_zret hJ rfl (by decide) dX6_readFoldBody_43 hF
  · have hF := hF.2 z5
    refine j_iconst hJ dX6_readFoldBody_18 ?_
    exact j_zret hJ rfl (by decide) dX6_readFoldBody_19 hF
set_option maxHeartbeats 4000000 in
set_option maxRecDepth 100000 in
theorem k_X6_readSet_b109 {l : Launch} {D : va_G} {cy : Nat → ClassId} {ad : Nat → Nat} {dp : Nat} {Q : Int → MM → Prop} {J : Nat → List (Nat × Value) → List Value → MM → Prop} (hin : jIn ad ksC.length) {c : Nat} (hc : isG c) (hg0 : jCN l D vwCl (tyC cy) cy ad ftC ksC (XtC ad) yX6_readE (.code yX6_readE cX6_readE 3 (some .boolean) :: Om) (rm_gq_ dp) 3 (W_X6_readE dp ad)) (hg1 : jCN l D vwCl (tyC cy) cy ad ftC ksC (XtC ad) yX6_readAnds (.code yX6_readAnds cX6_readAnds 3 (some .boolean) :: Om) (rm_gq_ dp) 3 (W_X6_readAnds dp ad)) (hg2 : jCN l D vwCl (tyC cy) cy ad ftC ksC (XtC ad) yX6_readNots (.code yX6_readNots cX6_readNots 3 (some .boolean) :: Om) (rm_gq_ dp) 3 (W_X6_readNots dp ad)) (hg3 : jCN l D vwCl (tyC cy) cy ad ftC ksC (XtC ad) yX6_readComparison (.code yX6_readComparison cX6_readComparison 2 (some .boolean) :: Om) (rm_gq_ dp) 3 (W_X6_readComparison dp ad)) (hg4 : jCN l D vwCl (tyC cy) cy ad ftC ksC (XtC ad) yX6_readSums (.code yX6_readSums cX6_readSums 3 (some .boolean) :: Om) (rm_gq_ dp) 3 (W_X6_readSums dp ad)) (hg5 : jCN l D vwCl (tyC cy) cy ad ftC ksC (XtC ad) yX6_readProducts (.code yX6_readProducts cX6_readProducts 3 (some .boolean) :: Om) (rm_gq_ dp) 3 (W_X6_readProducts dp ad)) (hg6 : jCN l D vwCl (tyC cy) cy ad ftC ksC (XtC ad) yX6_readSigned (.code yX6_readSigned cX6_readSigned 3 (some .boolean) :: Om) (rm_gq_ dp) 3 (W_X6_readSigned dp ad)) (hg7 : jCN l D vwCl (tyC cy) cy ad ftC ksC (XtC ad) yX6_readP (.code yX6_readP cX6_readP 3 (some .boolean) :: Om) (rm_gq_ dp) 3 (W_X6_readP dp ad)) (hg8 : jCN l D vwCl (tyC cy) cy ad ftC ksC (XtC ad) yX6_readTail (.code yX6_readTail cX6_readTail 3 (some .boolean) :: Om) (rm_gq_ dp) 3 (W_X6_readTail dp ad)) (hg9 : jCN l D vwCl (tyC cy) cy ad ftC ksC (XtC ad) yX6_readAtom (.code yX6_readAtom cX6_readAtom 1 (some .boolean) :: Om) (rm_gq_ dp) 3 (W_X6_readAtom dp ad)) (hg10 : jCN l D vwCl (tyC cy) cy ad ftC ksC (XtC ad) yX6_readInner (.code yX6_readInner cX6_readInner 1 (some .boolean) :: Om) (rm_gq_ dp) 3 (W_X6_readInner dp ad)) (hg11 : jCN l D vwCl (tyC cy) cy ad ftC ksC (XtC ad) yX6_readFold (.code yX6_readFold cX6_readFold 5 (some .boolean) :: Om) (rm_gq_ dp) 3 (W_X6_readFold dp ad)) (hg12 : jCN l D vwCl (tyC cy) cy ad ftC ksC (XtC ad) yX6_readFoldBody (.code yX6_readFoldBody cX6_readFoldBody 4 (some .boolean) :: Om) (rm_gq_ dp) 3 (W_X6_readFoldBody dp ad)) (hg13 : jCN l D vwCl (tyC cy) cy ad ftC ksC (XtC ad) yX6_readSet (.code yX6_readSet cX6_readSet 3 (some .boolean) :: Om) (rm_gq_ dp) 3 (W_X6_readSet dp ad)) (hg14 : jCN l D vwCl (tyC cy) cy ad ftC ksC (XtC ad) yX6_readWhere (.code yX6_readWhere cX6_readWhere 2 (some .boolean) :: Om) (rm_gq_ dp) 3 (W_X6_readWhere dp ad)) (hJ : jOk l D vwCl (tyC cy) cy ad ftC ksC (XtC ad) Om RX6 cX6_readSet 3 3 (rm_gq_ (dp + 1)) Q J)  : ∀ (x1 s0 : Int) (M : MM), ri_ x1 → ri_ s0 → w_X6_readSet_b109 c (gq_ c dp) Q  x1 s0 M → J 109 [(0, .ref (ad c)), (1, .int (Ii x1))] [.int (Ii s0), .ref (ad c)] M := by
  intro x1 s0 M gx1 gs0 hF
  unfold w_X6_readSet_b109 at hF
  refine j_iload_n hJ dX6_readSet_109 rfl 1 rfl ?_
  refine j_iconst hJ dX6_readSet_110 ?_
  refine j_aload_n hJ dX6_readSet_111 rfl 0 rfl ?_
  refine j_ga hJ (kG_0 hc) fC_9_0 fl_X6_9 dX6_readSet_112 ?_
  refine j_gl hJ kC_1 fC_12_11 rfl fl_X6_118 dX6_readSet_115 (fun v1 ev1 gv1 => ?_)
  have hF := hF v1 ev1 gv1
  refine j_callVi hJ (c_X6_emit (l := l) (D := D) (cy := cy) (ad := ad) hin) rfl om_623 ⟨rfl, rfl, by show _ ≤ _; simp only [rm_gq_]; omega, by show _ ≤ _; simp only [rm_gq_]; omega⟩ [.int (Ii s0), .int (Ii x1), .int (Ii 0), .long (Ll v1)] mv_X6_58 hd_X6_emitv (kG_0 hc) rfl rfl rfl (Nat.le_of_ble_eq_true rfl) dX6_readSet_118 ⟨c, s0, x1, 0, v1, rfl, hc, gs0, gx1, rk_0, gv1, hF⟩ (fun r2 M3 gr2 qM3 => ?_)
  have hF := qM3 gr2
  refine j_pop hJ dX6_readSet_121 rfl ?_
  refine j_aload_n hJ dX6_readSet_122 rfl 0 rfl ?_
  refine j_iconst hJ dX6_readSet_123 ?_
  refine j_callVz hJ (c_X6_pass (l := l) (D := D) (cy := cy) (ad := ad) hin) rfl om_647 ⟨rfl, rfl, by show _ ≤ _; simp only [rm_gq_]; omega, by show _ ≤ _; simp only [rm_gq_]; omega⟩ [.int (Ii 2)] mv_X6_122 hd_X6_passv (kG_0 hc) rfl rfl rfl (Nat.le_of_ble_eq_true rfl) dX6_readSet_124 ⟨c, 2, rfl, hc, rk_2, hF⟩ (fun r4 M5 gr4 qM5 => ?_)
  have hF := qM5 gr4
  exact j_zret hJ rfl gr4 dX6_readSet_127 hF
set_option maxHeartbeats 4000000 in
set_option maxRecDepth 100000 in
theorem k_X6_readSet_b95 {l : Launch} {D : va_G} {cy : Nat → ClassId} {ad : Nat → Nat} {dp : Nat} {Q : Int → MM → Prop} {J : Nat → List (Nat × Value) → List Value → MM → Prop} (hin : jIn ad ksC.length) {c : Nat} (hc : isG c) (hg0 : jCN l D vwCl (tyC cy) cy ad ftC ksC (XtC ad) yX6_readE (.code yX6_readE cX6_readE 3 (some .boolean) :: Om) (rm_gq_ dp) 3 (W_X6_readE dp ad)) (hg1 : jCN l D vwCl (tyC cy) cy ad ftC ksC (XtC ad) yX6_readAnds (.code yX6_readAnds cX6_readAnds 3 (some .boolean) :: Om) (rm_gq_ dp) 3 (W_X6_readAnds dp ad)) (hg2 : jCN l D vwCl (tyC cy) cy ad ftC ksC (XtC ad) yX6_readNots (.code yX6_readNots cX6_readNots 3 (some .boolean) :: Om) (rm_gq_ dp) 3 (W_X6_readNots dp ad)) (hg3 : jCN l D vwCl (tyC cy) cy ad ftC ksC (XtC ad) yX6_readComparison (.code yX6_readComparison cX6_readComparison 2 (some .boolean) :: Om) (rm_gq_ dp) 3 (W_X6_readComparison dp ad)) (hg4 : jCN l D vwCl (tyC cy) cy ad ftC ksC (XtC ad) yX6_readSums (.code yX6_readSums cX6_readSums 3 (some .boolean) :: Om) (rm_gq_ dp) 3 (W_X6_readSums dp ad)) (hg5 : jCN l D vwCl (tyC cy) cy ad ftC ksC (XtC ad) yX6_readProducts (.code yX6_readProducts cX6_readProducts 3 (some .boolean) :: Om) (rm_gq_ dp) 3 (W_X6_readProducts dp ad)) (hg6 : jCN l D vwCl (tyC cy) cy ad ftC ksC (XtC ad) yX6_readSigned (.code yX6_readSigned cX6_readSigned 3 (some .boolean) :: Om) (rm_gq_ dp) 3 (W_X6_readSigned dp ad)) (hg7 : jCN l D vwCl (tyC cy) cy ad ftC ksC (XtC ad) yX6_readP (.code yX6_readP cX6_readP 3 (some .boolean) :: Om) (rm_gq_ dp) 3 (W_X6_readP dp ad)) (hg8 : jCN l D vwCl (tyC cy) cy ad ftC ksC (XtC ad) yX6_readTail (.code yX6_readTail cX6_readTail 3 (some .boolean) :: Om) (rm_gq_ dp) 3 (W_X6_readTail dp ad)) (hg9 : jCN l D vwCl (tyC cy) cy ad ftC ksC (XtC ad) yX6_readAtom (.code yX6_readAtom cX6_readAtom 1 (some .boolean) :: Om) (rm_gq_ dp) 3 (W_X6_readAtom dp ad)) (hg10 : jCN l D vwCl (tyC cy) cy ad ftC ksC (XtC ad) yX6_readInner (.code yX6_readInner cX6_readInner 1 (some .boolean) :: Om) (rm_gq_ dp) 3 (W_X6_readInner dp ad)) (hg11 : jCN l D vwCl (tyC cy) cy ad ftC ksC (XtC ad) yX6_readFold (.code yX6_readFold cX6_readFold 5 (some .boolean) :: Om) (rm_gq_ dp) 3 (W_X6_readFold dp ad)) (hg12 : jCN l D vwCl (tyC cy) cy ad ftC ksC (XtC ad) yX6_readFoldBody (.code yX6_readFoldBody cX6_readFoldBody 4 (some .boolean) :: Om) (rm_gq_ dp) 3 (W_X6_readFoldBody dp ad)) (hg13 : jCN l D vwCl (tyC cy) cy ad ftC ksC (XtC ad) yX6_readSet (.code yX6_readSet cX6_readSet 3 (some .boolean) :: Om) (rm_gq_ dp) 3 (W_X6_readSet dp ad)) (hg14 : jCN l D vwCl (tyC cy) cy ad ftC ksC (XtC ad) yX6_readWhere (.code yX6_readWhere cX6_readWhere 2 (some .boolean) :: Om) (rm_gq_ dp) 3 (W_X6_readWhere dp ad)) (hJ : jOk l D vwCl (tyC cy) cy ad ftC ksC (XtC ad) Om RX6 cX6_readSet 3 3 (rm_gq_ (dp + 1)) Q J)  : ∀ (x1 x2 : Int) (M : MM), ri_ x1 → ri_ x2 → w_X6_readSet_b95 c (gq_ c dp) Q  x1 x2 M → J 95 [(0, .ref (ad c)), (1, .int (Ii x1)), (2, .int (Ii x2))] [] M := by
  intro x1 x2 M gx1 gx2 hF
  unfold w_X6_readSet_b95 at hF
  refine j_aload_n hJ dX6_readSet_95 rfl 0 rfl ?_
  refine j_iload_n hJ dX6_readSet_96 rfl 2 rfl ?_
  refine j_bipush hJ dX6_readSet_97 (by decide) ?_
  refine j_icmp_ne hJ 107 gx2 rk_30 dX6_readSet_99 (by decide) (fun z1 => ?_) (fun z1 => ?_)
  · have hF := hF.1 z1
    refine j_bipush hJ dX6_readSet_107 (by decide) ?_
    exact j_sub hJ [0, 1] rfl (k_X6_readSet_b109 hin hc hg0 hg1 hg2 hg3 hg4 hg5 hg6 hg7 hg8 hg9 hg10 hg11 hg12 hg13 hg14 hJ  x1 28 _ gx1 rk_28 hF)
  · have hF := hF.2 z1
    refine j_bipush hJ dX6_readSet_102 (by decide) ?_
    refine j_goto hJ 109 dX6_readSet_104 (by decide) ?_
    exact j_sub hJ [0, 1] rfl (k_X6_readSet_b109 hin hc hg0 hg1 hg2 hg3 hg4 hg5 hg6 hg7 hg8 hg9 hg10 hg11 hg12 hg13 hg14 hJ  x1 27 _ gx1 rk_27 hF)
set_option maxHeartbeats 4000000 in
set_option maxRecDepth 100000 in
theorem k_X6_readSet_b49 {l : Launch} {D : va_G} {cy : Nat → ClassId} {ad : Nat → Nat} {dp : Nat} {Q : Int → MM → Prop} {J : Nat → List (Nat × Value) → List Value → MM → Prop} (hin : jIn ad ksC.length) {c : Nat} (hc : isG c) (hg0 : jCN l D vwCl (tyC cy) cy ad ftC ksC (XtC ad) yX6_readE (.code yX6_readE cX6_readE 3 (some .boolean) :: Om) (rm_gq_ dp) 3 (W_X6_readE dp ad)) (hg1 : jCN l D vwCl (tyC cy) cy ad ftC ksC (XtC ad) yX6_readAnds (.code yX6_readAnds cX6_readAnds 3 (some .boolean) :: Om) (rm_gq_ dp) 3 (W_X6_readAnds dp ad)) (hg2 : jCN l D vwCl (tyC cy) cy ad ftC ksC (XtC ad) yX6_readNots (.code yX6_readNots cX6_readNots 3 (some .boolean) :: Om) (rm_gq_ dp) 3 (W_X6_readNots dp ad)) (hg3 : jCN l D vwCl (tyC cy) cy ad ftC ksC (XtC ad) yX6_readComparison (.code yX6_readComparison cX6_readComparison 2 (some .boolean) :: Om) (rm_gq_ dp) 3 (W_X6_readComparison dp ad)) (hg4 : jCN l D vwCl (tyC cy) cy ad ftC ksC (XtC ad) yX6_readSums (.code yX6_readSums cX6_readSums 3 (some .boolean) :: Om) (rm_gq_ dp) 3 (W_X6_readSums dp ad)) (hg5 : jCN l D vwCl (tyC cy) cy ad ftC ksC (XtC ad) yX6_readProducts (.code yX6_readProducts cX6_readProducts 3 (some .boolean) :: Om) (rm_gq_ dp) 3 (W_X6_readProducts dp ad)) (hg6 : jCN l D vwCl (tyC cy) cy ad ftC ksC (XtC ad) yX6_readSigned (.code yX6_readSigned cX6_readSigned 3 (some .boolean) :: Om) (rm_gq_ dp) 3 (W_X6_readSigned dp ad)) (hg7 : jCN l D vwCl (tyC cy) cy ad ftC ksC (XtC ad) yX6_readP (.code yX6_readP cX6_readP 3 (some .boolean) :: Om) (rm_gq_ dp) 3 (W_X6_readP dp ad)) (hg8 : jCN l D vwCl (tyC cy) cy ad ftC ksC (XtC ad) yX6_readTail (.code yX6_readTail cX6_readTail 3 (some .boolean) :: Om) (rm_gq_ dp) 3 (W_X6_readTail dp ad)) (hg9 : jCN l D vwCl (tyC cy) cy ad ftC ksC (XtC ad) yX6_readAtom (.code yX6_readAtom cX6_readAtom 1 (some .boolean) :: Om) (rm_gq_ dp) 3 (W_X6_readAtom dp ad)) (hg10 : jCN l D vwCl (tyC cy) cy ad ftC ksC (XtC ad) yX6_readInner (.code yX6_readInner cX6_readInner 1 (some .boolean) :: Om) (rm_gq_ dp) 3 (W_X6_readInner dp ad)) (hg11 : jCN l D vwCl (tyC cy) cy ad ftC ksC (XtC ad) yX6_readFold (.code yX6_readFold cX6_readFold 5 (some .boolean) :: Om) (rm_gq_ dp) 3 (W_X6_readFold dp ad)) (hg12 : jCN l D vwCl (tyC cy) cy ad ftC ksC (XtC ad) yX6_readFoldBody (.code yX6_readFoldBody cX6_readFoldBody 4 (some .boolean) :: Om) (rm_gq_ dp) 3 (W_X6_readFoldBody dp ad)) (hg13 : jCN l D vwCl (tyC cy) cy ad ftC ksC (XtC ad) yX6_readSet (.code yX6_readSet cX6_readSet 3 (some .boolean) :: Om) (rm_gq_ dp) 3 (W_X6_readSet dp ad)) (hg14 : jCN l D vwCl (tyC cy) cy ad ftC ksC (XtC ad) yX6_readWhere (.code yX6_readWhere cX6_readWhere 2 (some .boolean) :: Om) (rm_gq_ dp) 3 (W_X6_readWhere dp ad)) (hJ : jOk l D vwCl (tyC cy) cy ad ftC ksC (XtC ad) Om RX6 cX6_readSet 3 3 (rm_gq_ (dp + 1)) Q J)  : ∀ (x1 x2 : Int) (M : MM), ri_ x1 → ri_ x2 → w_X6_readSet_b49 c (gq_ c dp) Q  x1 x2 M → J 49 [(0, .ref (ad c)), (1, .int (Ii x1)), (2, .int (Ii x2))] [] M := by
  intro x1 x2 M gx1 gx2 hF
  unfold w_X6_readSet_b49 at hF
  refine j_aload_n hJ dX6_readSet_49 rfl 0 rfl ?_
  refine j_callVz hJ (c_X6_addNode (l := l) (D := D) (cy := cy) (ad := ad) hin) rfl om_618 ⟨rfl, rfl, by show _ ≤ _; simp only [rm_gq_]; omega, by show _ ≤ _; simp only [rm_gq_]; omega⟩ [] mv_X6_115 hd_X6_addNodev (kG_0 hc) rfl rfl rfl (Nat.le_of_ble_eq_true rfl) dX6_readSet_50 ⟨c, rfl, hc, hF⟩ (fun r1 M2 gr1 qM2 => ?_)
  have hF := qM2 gr1
  refine j_if_ne hJ 58 (jz_ri gr1) dX6_readSet_53 (by decide) (fun z3 => ?_) (fun z3 => ?_)
  · have hF := hF.1 z3
    refine j_aload_n hJ dX6_readSet_58 rfl 0 rfl ?_
    refine j_ga hJ (kG_0 hc) fC_9_0 fl_X6_9 dX6_readSet_59 ?_
    refine j_callVv hJ (c_X9_nextWord (l := l) (D := D) (cy := cy) (ad := ad) hin) rfl om_597 ⟨rfl, rfl, by show _ ≤ _; simp only [rm_gq_]; omega, by show _ ≤ _; simp only [rm_gq_]; omega⟩ [] mv_X6_69 hd_X9_nextWordv kC_1 rfl rfl rfl (Nat.le_of_ble_eq_true rfl) dX6_readSet_62 ⟨rfl, hF⟩ (fun M5 qM5 => ?_)
    have hF := qM5
    refine j_iload_n hJ dX6_readSet_65 rfl 2 rfl ?_
    refine j_bipush hJ dX6_readSet_66 (by decide) ?_
    refine j_icmp_ne hJ 83 gx2 rk_32 dX6_readSet_68 (by decide) (fun z6 => ?_) (fun z6 => ?_)
    · have hF := hF.1 z6
      refine j_iload_n hJ dX6_readSet_83 rfl 2 rfl ?_
      refine j_bipush hJ dX6_readSet_84 (by decide) ?_
      refine j_icmp_eq hJ 95 gx2 rk_30 dX6_readSet_86 (by decide) (fun z7 => ?_) (fun z7 => ?_)
      · have hF := hF.1 z7
        exact j_sub hJ [0, 1, 2] rfl (k_X6_readSet_b95 hin hc hg0 hg1 hg2 hg3 hg4 hg5 hg6 hg7 hg8 hg9 hg10 hg11 hg12 hg13 hg14 hJ  x1 x2 _ gx1 gx2 hF)
      · have hF := hF.2 z7
        refine j_iload_n hJ dX6_readSet_89 rfl 2 rfl ?_
        refine j_bipush hJ dX6_readSet_90 (by decide) ?_
        refine j_icmp_ne hJ 128 gx2 rk_31 dX6_readSet_92 (by decide) (fun z8 => ?_) (fun z8 => ?_)
        · have hF := hF.1 z8
          refine j_aload_n hJ dX6_readSet_128 rfl 0 rfl ?_
          refine j_callVz hJ hg7 rfl om_659 ⟨rfl, rfl, by show _ ≤ _; simp only [rm_gq_]; omega, by show _ ≤ _; simp only [rm_gq_]; omega⟩ [] mv_X6_125 hd_X6_readPv (kG_0 hc) rfl rfl rfl (Nat.le_of_ble_eq_true rfl) dX6_readSet_129 ⟨c, rfl, hc, hF⟩ (fun r9 M10 gr9 qM10 => ?_)
          have hF := qM10 gr9
          refine j_if_ne hJ 137 (jz_ri gr9) dX6_readSet_132 (by decide) (fun z11 => ?_) (fun z11 => ?_)
          · have hF := hF.1 z11
            refine j_aload_n hJ dX6_readSet_137 rfl 0 rfl ?_
            refine j_bipush hJ dX6_readSet_138 (by decide) ?_
            refine j_iload_n hJ dX6_readSet_140 rfl 2 rfl ?_
            refine j_iadd hJ dX6_readSet_141 ?_
            have g12 := hF.1; have hF := hF.2
            refine j_bipush hJ dX6_readSet_142 (by decide) ?_
            refine j_isub hJ dX6_readSet_144 ?_
            have g13 := hF.1; have hF := hF.2
            refine j_iload_n hJ dX6_readSet_145 rfl 1 rfl ?_
            refine j_iconst hJ dX6_readSet_146 ?_
            refine j_lconst (x := 0) hJ dX6_readSet_147 rfl ?_
            refine j_callVi hJ (c_X6_emit (l := l) (D := D) (cy := cy) (ad := ad) hin) rfl om_623 ⟨rfl, rfl, by show _ ≤ _; simp only [rm_gq_]; omega, by show _ ≤ _; simp only [rm_gq_]; omega⟩ [.int (Ii ((30 + x2) - 55)), .int (Ii x1), .int (Ii 0), .long (Ll 0)] mv_X6_58 hd_X6_emitv (kG_0 hc) rfl rfl rfl (Nat.le_of_ble_eq_true rfl) dX6_readSet_148 ⟨c, ((30 + x2) - 55), x1, 0, 0, rfl, hc, g13, gx1, rk_0, lkm_0, hF⟩ (fun r14 M15 gr14 qM15 => ?_)
            have hF := qM15 gr14
            refine j_pop hJ dX6_readSet_151 rfl ?_
            refine j_iconst hJ dX6_readSet_152 ?_
            exact j_zret hJ rfl (by decide) dX6_readSet_153 hF
          · have hF := hF.2 z11
            refine j_iconst hJ dX6_readSet_135 ?_
            exact j_zret hJ rfl (by decide) dX6_readSet_136 hF
        · have hF := hF.2 z8
          exact j_sub hJ [0, 1, 2] rfl (k_X6_readSet_b95 hin hc hg0 hg1 hg2 hg3 hg4 hg5 hg6 hg7 hg8 hg9 hg10 hg11 hg12 hg13 hg14 hJ  x1 x2 _ gx1 gx2 hF)
    · have hF := hF.2 z6
      refine j_aload_n hJ dX6_readSet_71 rfl 0 rfl ?_
      refine j_bipush hJ dX6_readSet_72 (by decide) ?_
      refine j_iload_n hJ dX6_readSet_74 rfl 1 rfl ?_
      refine j_iconst hJ dX6_readSet_75 ?_
      refine j_lconst (x := 0) hJ dX6_readSet_76 rfl ?_
      refine j_callVi hJ (c_X6_emit (l := l) (D := D) (cy := cy) (ad := ad) hin) rfl om_623 ⟨rfl, rfl, by show _ ≤ _; simp only [rm_gq_]; omega, by show _ ≤ _; simp only [rm_gq_]; omega⟩ [.int (Ii 29), .int (Ii x1), .int (Ii 0), .long (Ll 0)] mv_X6_58 hd_X6_emitv (kG_0 hc) rfl rfl rfl (Nat.le_of_ble_eq_true rfl) dX6_readSet_77 ⟨c, 29, x1, 0, 0, rfl, hc, rk_29, gx1, rk_0, lkm_0, hF⟩ (fun r16 M17 gr16 qM17 => ?_)
      have hF := qM17 gr16
      refine j_pop hJ dX6_readSet_80 rfl ?_
      refine j_iconst hJ dX6_readSet_81 ?_
      exact j_zret hJ rfl (by decide) dX6_readSet_82 hF
  · have hF := hF.2 z3
    refine j_iconst hJ dX6_readSet_56 ?_
    exact j_zret hJ rfl (by decide) dX6_readSet_57 hF
set_option maxHeartbeats 4000000 in
set_option maxRecDepth 100000 in
theorem s_X6_readSet {l : Launch} {D : va_G} {cy : Nat → ClassId} {ad : Nat → Nat} {dp : Nat} (hin : jIn ad ksC.length) (hg0 : jCN l D vwCl (tyC cy) cy ad ftC ksC (XtC ad) yX6_readE (.code yX6_readE cX6_readE 3 (some .boolean) :: Om) (rm_gq_ dp) 3 (W_X6_readE dp ad)) (hg1 : jCN l D vwCl (tyC cy) cy ad ftC ksC (XtC ad) yX6_readAnds (.code yX6_readAnds cX6_readAnds 3 (some .boolean) :: Om) (rm_gq_ dp) 3 (W_X6_readAnds dp ad)) (hg2 : jCN l D vwCl (tyC cy) cy ad ftC ksC (XtC ad) yX6_readNots (.code yX6_readNots cX6_readNots 3 (some .boolean) :: Om) (rm_gq_ dp) 3 (W_X6_readNots dp ad)) (hg3 : jCN l D vwCl (tyC cy) cy ad ftC ksC (XtC ad) yX6_readComparison (.code yX6_readComparison cX6_readComparison 2 (some .boolean) :: Om) (rm_gq_ dp) 3 (W_X6_readComparison dp ad)) (hg4 : jCN l D vwCl (tyC cy) cy ad ftC ksC (XtC ad) yX6_readSums (.code yX6_readSums cX6_readSums 3 (some .boolean) :: Om) (rm_gq_ dp) 3 (W_X6_readSums dp ad)) (hg5 : jCN l D vwCl (tyC cy) cy ad ftC ksC (XtC ad) yX6_readProducts (.code yX6_readProducts cX6_readProducts 3 (some .boolean) :: Om) (rm_gq_ dp) 3 (W_X6_readProducts dp ad)) (hg6 : jCN l D vwCl (tyC cy) cy ad ftC ksC (XtC ad) yX6_readSigned (.code yX6_readSigned cX6_readSigned 3 (some .boolean) :: Om) (rm_gq_ dp) 3 (W_X6_readSigned dp ad)) (hg7 : jCN l D vwCl (tyC cy) cy ad ftC ksC (XtC ad) yX6_readP (.code yX6_readP cX6_readP 3 (some .boolean) :: Om) (rm_gq_ dp) 3 (W_X6_readP dp ad)) (hg8 : jCN l D vwCl (tyC cy) cy ad ftC ksC (XtC ad) yX6_readTail (.code yX6_readTail cX6_readTail 3 (some .boolean) :: Om) (rm_gq_ dp) 3 (W_X6_readTail dp ad)) (hg9 : jCN l D vwCl (tyC cy) cy ad ftC ksC (XtC ad) yX6_readAtom (.code yX6_readAtom cX6_readAtom 1 (some .boolean) :: Om) (rm_gq_ dp) 3 (W_X6_readAtom dp ad)) (hg10 : jCN l D vwCl (tyC cy) cy ad ftC ksC (XtC ad) yX6_readInner (.code yX6_readInner cX6_readInner 1 (some .boolean) :: Om) (rm_gq_ dp) 3 (W_X6_readInner dp ad)) (hg11 : jCN l D vwCl (tyC cy) cy ad ftC ksC (XtC ad) yX6_readFold (.code yX6_readFold cX6_readFold 5 (some .boolean) :: Om) (rm_gq_ dp) 3 (W_X6_readFold dp ad)) (hg12 : jCN l D vwCl (tyC cy) cy ad ftC ksC (XtC ad) yX6_readFoldBody (.code yX6_readFoldBody cX6_readFoldBody 4 (some .boolean) :: Om) (rm_gq_ dp) 3 (W_X6_readFoldBody dp ad)) (hg13 : jCN l D vwCl (tyC cy) cy ad ftC ksC (XtC ad) yX6_readSet (.code yX6_readSet cX6_readSet 3 (some .boolean) :: Om) (rm_gq_ dp) 3 (W_X6_readSet dp ad)) (hg14 : jCN l D vwCl (tyC cy) cy ad ftC ksC (XtC ad) yX6_readWhere (.code yX6_readWhere cX6_readWhere 2 (some .boolean) :: Om) (rm_gq_ dp) 3 (W_X6_readWhere dp ad)) : jCN l D vwCl (tyC cy) cy ad ftC ksC (XtC ad) yX6_readSet (.code yX6_readSet cX6_readSet 3 (some .boolean) :: Om) (rm_gq_ (dp + 1)) 3 (W_X6_readSet (dp + 1) ad) := by
  refine jCN_of (y := yX6_readSet) (cc := cX6_readSet) (nL := 3) (rk := 3) (rm := (rm_gq_ (dp + 1))) (own := RX6) (tyC_ok cy) hin (XtC_ok ad) Om_good (by decide) rfl ?_
  intro Q av M hF
  obtain ⟨c, p1, rfl, hc, gp1, hF⟩ := hF
  refine ⟨Nat.le_of_ble_eq_true rfl, fun J hJ => ?_⟩
  show J 0 [(0, .ref (ad c)), (1, .int (Ii p1))] [] M
  have hF : b_X6_readSet c (gq_ c dp) Q p1 M := hF
  unfold b_X6_readSet at hF
  refine j_aload_n hJ dX6_readSet_0 rfl 0 rfl ?_
  refine j_ga hJ (kG_0 hc) fC_9_0 fl_X6_9 dX6_readSet_1 ?_
  refine j_gi hJ kC_1 fC_12_9 rfl fl_X6_45 dX6_readSet_4 (fun v1 ev1 gv1 => ?_)
  have hF := hF v1 ev1 gv1
  refine j_istore_n (lv' := [(2, .int (Ii v1)), (0, .ref (ad c)), (1, .int (Ii p1))]) hJ dX6_readSet_7 rfl (by decide) rfl ?_
  refine j_iload_n hJ dX6_readSet_8 rfl 0 rfl ?_
  refine j_bipush hJ dX6_readSet_9 (by decide) ?_
  refine j_icmp_eq hJ 49 gv1 rk_30 dX6_readSet_11 (by decide) (fun z2 => ?_) (fun z2 => ?_)
  · have hF := hF.1 z2
    exact j_sub hJ [1, 2, 0] rfl (k_X6_readSet_b49 hin hc hg0 hg1 hg2 hg3 hg4 hg5 hg6 hg7 hg8 hg9 hg10 hg11 hg12 hg13 hg14 hJ  p1 v1 _ gp1 gv1 hF)
  · have hF := hF.2 z2
    refine j_iload_n hJ dX6_readSet_14 rfl 0 rfl ?_
    refine j_bipush hJ dX6_readSet_15 (by decide) ?_
    refine j_icmp_eq hJ 49 gv1 rk_31 dX6_readSet_17 (by decide) (fun z3 => ?_) (fun z3 => ?_)
    · have hF := hF.1 z3
      exact j_sub hJ [1, 2, 0] rfl (k_X6_readSet_b49 hin hc hg0 hg1 hg2 hg3 hg4 hg5 hg6 hg7 hg8 hg9 hg10 hg11 hg12 hg13 hg14 hJ  p1 v1 _ gp1 gv1 hF)
    · have hF := hF.2 z3
      refine j_iload_n hJ dX6_readSet_20 rfl 0 rfl ?_
      refine j_bipush hJ dX6_readSet_21 (by decide) ?_
      refine j_icmp_eq hJ 49 gv1 rk_32 dX6_readSet_23 (by decide) (fun z4 => ?_) (fun z4 => ?_)
      · have hF := hF.1 z4
        exact j_sub hJ [1, 2, 0] rfl (k_X6_readSet_b49 hin hc hg0 hg1 hg2 hg3 hg4 hg5 hg6 hg7 hg8 hg9 hg10 hg11 hg12 hg13 hg14 hJ  p1 v1 _ gp1 gv1 hF)
      · have hF := hF.2 z4
        refine j_iload_n hJ dX6_readSet_26 rfl 0 rfl ?_
        refine j_bipush hJ dX6_readSet_27 (by decide) ?_
        refine j_icmp_eq hJ 49 gv1 rk_55 dX6_readSet_29 (by decide) (fun z5 => ?_) (fun z5 => ?_)
        · have hF := hF.1 z5
          exact j_sub hJ [1, 2, 0] rfl (k_X6_readSet_b49 hin hc hg0 hg1 hg2 hg3 hg4 hg5 hg6 hg7 hg8 hg9 hg10 hg11 hg12 hg13 hg14 hJ  p1 v1 _ gp1 gv1 hF)
        · have hF := hF.2 z5
          refine j_iload_n hJ dX6_readSet_32 rfl 0 rfl ?_
          refine j_bipush hJ dX6_readSet_33 (by decide) ?_
          refine j_icmp_eq hJ 49 gv1 rk_56 dX6_readSet_35 (by decide) (fun z6 => ?_) (fun z6 => ?_)
          · have hF := hF.1 z6
            exact j_sub hJ [1, 2, 0] rfl (k_X6_readSet_b49 hin hc hg0 hg1 hg2 hg3 hg4 hg5 hg6 hg7 hg8 hg9 hg10 hg11 hg12 hg13 hg14 hJ  p1 v1 _ gp1 gv1 hF)
          · have hF := hF.2 z6
            refine j_iload_n hJ dX6_readSet_38 rfl 0 rfl ?_
            refine j_bipush hJ dX6_readSet_39 (by decide) ?_
            refine j_icmp_eq hJ 49 gv1 rk_57 dX6_readSet_41 (by decide) (fun z7 => ?_) (fun z7 => ?_)
            · have hF := hF.1 z7
              exact j_sub hJ [1, 2, 0] rfl (k_X6_readSet_b49 hin hc hg0 hg1 hg2 hg3 hg4 hg5 hg6 hg7 hg8 hg9 hg10 hg11 hg12 hg13 hg14 hJ  p1 v1 _ gp1 gv1 hF)
            · have hF := hF.2 z7
              refine j_aload_n hJ dX6_readSet_44 rfl 1 rfl ?_
              refine j_callVz hJ (c_X6_refuse (l := l) (D := D) (cy := cy) (ad := ad) hin) rfl om_643 ⟨rfl, rfl, by show _ ≤ _; simp only [rm_gq_]; omega, by show _ ≤ _; simp only [rm_gq_]; omega⟩ [] mv_X6_51 hd_X6_refusev (kG_0 hc) rfl rfl rfl (Nat.le_of_ble_eq_true rfl) dX6_readSet_45 ⟨c, rfl, hc, hF⟩ (fun r8 M9 gr8 qM9 => ?_)
              have hF := qM9 gr8
              exact j_zret hJ rfl gr8 dX6_readSet_48 hF
set_option maxHeartbeats 4000000 in
set_option maxRecDepth 100000 in
theorem s_X6_readWhere {l : Launch} {D : va_G} {cy : Nat → ClassId} {ad : Nat → Nat} {dp : Nat} (hin : jIn ad ksC.length) (hg0 : jCN l D vwCl (tyC cy) cy ad ftC ksC (XtC ad) yX6_readE (.code yX6_readE cX6_readE 3 (some .boolean) :: Om) (rm_gq_ dp) 3 (W_X6_readE dp ad)) (hg1 : jCN l D vwCl (tyC cy) cy ad ftC ksC (XtC ad) yX6_readAnds (.code yX6_readAnds cX6_readAnds 3 (some .boolean) :: Om) (rm_gq_ dp) 3 (W_X6_readAnds dp ad)) (hg2 : jCN l D vwCl (tyC cy) cy ad ftC ksC (XtC ad) yX6_readNots (.code yX6_readNots cX6_readNots 3 (some .boolean) :: Om) (rm_gq_ dp) 3 (W_X6_readNots dp ad)) (hg3 : jCN l D vwCl (tyC cy) cy ad ftC ksC (XtC ad) yX6_readComparison (.code yX6_readComparison cX6_readComparison 2 (some .boolean) :: Om) (rm_gq_ dp) 3 (W_X6_readComparison dp ad)) (hg4 : jCN l D vwCl (tyC cy) cy ad ftC ksC (XtC ad) yX6_readSums (.code yX6_readSums cX6_readSums 3 (some .boolean) :: Om) (rm_gq_ dp) 3 (W_X6_readSums dp ad)) (hg5 : jCN l D vwCl (tyC cy) cy ad ftC ksC (XtC ad) yX6_readProducts (.code yX6_readProducts cX6_readProducts 3 (some .boolean) :: Om) (rm_gq_ dp) 3 (W_X6_readProducts dp ad)) (hg6 : jCN l D vwCl (tyC cy) cy ad ftC ksC (XtC ad) yX6_readSigned (.code yX6_readSigned cX6_readSigned 3 (some .boolean) :: Om) (rm_gq_ dp) 3 (W_X6_readSigned dp ad)) (hg7 : jCN l D vwCl (tyC cy) cy ad ftC ksC (XtC ad) yX6_readP (.code yX6_readP cX6_readP 3 (some .boolean) :: Om) (rm_gq_ dp) 3 (W_X6_readP dp ad)) (hg8 : jCN l D vwCl (tyC cy) cy ad ftC ksC (XtC ad) yX6_readTail (.code yX6_readTail cX6_readTail 3 (some .boolean) :: Om) (rm_gq_ dp) 3 (W_X6_readTail dp ad)) (hg9 : jCN l D vwCl (tyC cy) cy ad ftC ksC (XtC ad) yX6_readAtom (.code yX6_readAtom cX6_readAtom 1 (some .boolean) :: Om) (rm_gq_ dp) 3 (W_X6_readAtom dp ad)) (hg10 : jCN l D vwCl (tyC cy) cy ad ftC ksC (XtC ad) yX6_readInner (.code yX6_readInner cX6_readInner 1 (some .boolean) :: Om) (rm_gq_ dp) 3 (W_X6_readInner dp ad)) (hg11 : jCN l D vwCl (tyC cy) cy ad ftC ksC (XtC ad) yX6_readFold (.code yX6_readFold cX6_readFold 5 (some .boolean) :: Om) (rm_gq_ dp) 3 (W_X6_readFold dp ad)) (hg12 : jCN l D vwCl (tyC cy) cy ad ftC ksC (XtC ad) yX6_readFoldBody (.code yX6_readFoldBody cX6_readFoldBody 4 (some .boolean) :: Om) (rm_gq_ dp) 3 (W_X6_readFoldBody dp ad)) (hg13 : jCN l D vwCl (tyC cy) cy ad ftC ksC (XtC ad) yX6_readSet (.code yX6_readSet cX6_readSet 3 (some .boolean) :: Om) (rm_gq_ dp) 3 (W_X6_readSet dp ad)) (hg14 : jCN l D vwCl (tyC cy) cy ad ftC ksC (XtC ad) yX6_readWhere (.code yX6_readWhere cX6_readWhere 2 (some .boolean) :: Om) (rm_gq_ dp) 3 (W_X6_readWhere dp ad)) : jCN l D vwCl (tyC cy) cy ad ftC ksC (XtC ad) yX6_readWhere (.code yX6_readWhere cX6_readWhere 2 (some .boolean) :: Om) (rm_gq_ (dp + 1)) 3 (W_X6_readWhere (dp + 1) ad) := by
  refine jCN_of (y := yX6_readWhere) (cc := cX6_readWhere) (nL := 2) (rk := 3) (rm := (rm_gq_ (dp + 1))) (own := RX6) (tyC_ok cy) hin (XtC_ok ad) Om_good (by decide) rfl ?_
  intro Q av M hF
  obtain ⟨c, p1, rfl, hc, gp1, hF⟩ := hF
  refine ⟨Nat.le_of_ble_eq_true rfl, fun J hJ => ?_⟩
  show J 0 [(0, .ref (ad c)), (1, .int (Ii p1))] [] M
  have hF : b_X6_readWhere c (gq_ c dp) Q p1 M := hF
  unfold b_X6_readWhere at hF
  refine j_aload_n hJ dX6_readWhere_0 rfl 0 rfl ?_
  refine j_ga hJ (kG_0 hc) fC_9_0 fl_X6_9 dX6_readWhere_1 ?_
  refine j_gi hJ kC_1 fC_12_9 rfl fl_X6_45 dX6_readWhere_4 (fun v1 ev1 gv1 => ?_)
  have hF := hF v1 ev1 gv1
  refine j_bipush hJ dX6_readWhere_7 (by decide) ?_
  refine j_icmp_eq hJ 14 gv1 rk_34 dX6_readWhere_9 (by decide) (fun z2 => ?_) (fun z2 => ?_)
  · have hF := hF.1 z2
    refine j_aload_n hJ dX6_readWhere_14 rfl 0 rfl ?_
    refine j_ga hJ (kG_0 hc) fC_9_0 fl_X6_9 dX6_readWhere_15 ?_
    refine j_callVv hJ (c_X9_nextWord (l := l) (D := D) (cy := cy) (ad := ad) hin) rfl om_597 ⟨rfl, rfl, by show _ ≤ _; simp only [rm_gq_]; omega, by show _ ≤ _; simp only [rm_gq_]; omega⟩ [] mv_X6_69 hd_X9_nextWordv kC_1 rfl rfl rfl (Nat.le_of_ble_eq_true rfl) dX6_readWhere_18 ⟨rfl, hF⟩ (fun M4 qM4 => ?_)
    have hF := qM4
    refine j_aload_n hJ dX6_readWhere_21 rfl 0 rfl ?_
    refine j_callVz hJ hg0 rfl om_671 ⟨rfl, rfl, by show _ ≤ _; simp only [rm_gq_]; omega, by show _ ≤ _; simp only [rm_gq_]; omega⟩ [] mv_X6_41 hd_X6_readEv (kG_0 hc) rfl rfl rfl (Nat.le_of_ble_eq_true rfl) dX6_readWhere_22 ⟨c, rfl, hc, hF⟩ (fun r5 M6 gr5 qM6 => ?_)
    have hF := qM6 gr5
    refine j_if_ne hJ 30 (jz_ri gr5) dX6_readWhere_25 (by decide) (fun z7 => ?_) (fun z7 => ?_)
    · have hF := hF.1 z7
      refine j_aload_n hJ dX6_readWhere_30 rfl 0 rfl ?_
      refine j_bipush hJ dX6_readWhere_31 (by decide) ?_
      refine j_iconst hJ dX6_readWhere_33 ?_
      refine j_iload_n hJ dX6_readWhere_34 rfl 1 rfl ?_
      refine j_lconst (x := 0) hJ dX6_readWhere_35 rfl ?_
      refine j_callVi hJ (c_X6_emit (l := l) (D := D) (cy := cy) (ad := ad) hin) rfl om_623 ⟨rfl, rfl, by show _ ≤ _; simp only [rm_gq_]; omega, by show _ ≤ _; simp only [rm_gq_]; omega⟩ [.int (Ii 37), .int (Ii 0), .int (Ii p1), .long (Ll 0)] mv_X6_58 hd_X6_emitv (kG_0 hc) rfl rfl rfl (Nat.le_of_ble_eq_true rfl) dX6_readWhere_36 ⟨c, 37, 0, p1, 0, rfl, hc, rk_37, rk_0, gp1, lkm_0, hF⟩ (fun r8 M9 gr8 qM9 => ?_)
      have hF := qM9 gr8
      refine j_pop hJ dX6_readWhere_39 rfl ?_
      refine j_iconst hJ dX6_readWhere_40 ?_
      exact j_zret hJ rfl (by decide) dX6_readWhere_41 hF
    · have hF := hF.2 z7
      refine j_iconst hJ dX6_readWhere_28 ?_
      exact j_zret hJ rfl (by decide) dX6_readWhere_29 hF
  · have hF := hF.2 z2
    refine j_iconst hJ dX6_readWhere_12 ?_
    exact j_zret hJ rfl (by decide) dX6_readWhere_13 hF
set_option maxHeartbeats 4000000 in
theorem a_gq_ {l : Launch} {D : va_G} {cy : Nat → ClassId} {ad : Nat → Nat} (hin : jIn ad ksC.length) (dp : Nat) : jCN l D vwCl (tyC cy) cy ad ftC ksC (XtC ad) yX6_readE (.code yX6_readE cX6_readE 3 (some .boolean) :: Om) (rm_gq_ dp) 3 (W_X6_readE dp ad) ∧ jCN l D vwCl (tyC cy) cy ad ftC ksC (XtC ad) yX6_readAnds (.code yX6_readAnds cX6_readAnds 3 (some .boolean) :: Om) (rm_gq_ dp) 3 (W_X6_readAnds dp ad) ∧ jCN l D vwCl (tyC cy) cy ad ftC ksC (XtC ad) yX6_readNots (.code yX6_readNots cX6_readNots 3 (some .boolean) :: Om) (rm_gq_ dp) 3 (W_X6_readNots dp ad) ∧ jCN l D vwCl (tyC cy) cy ad ftC ksC (XtC ad) yX6_readComparison (.code yX6_readComparison cX6_readComparison 2 (some .boolean) :: Om) (rm_gq_ dp) 3 (W_X6_readComparison dp ad) ∧ jCN l D vwCl (tyC cy) cy ad ftC ksC (XtC ad) yX6_readSums (.code yX6_readSums cX6_readSums 3 (some .boolean) :: Om) (rm_gq_ dp) 3 (W_X6_readSums dp ad) ∧ jCN l D vwCl (tyC cy) cy ad ftC ksC (XtC ad) yX6_readProducts (.code yX6_readProducts cX6_readProducts 3 (some .boolean) :: Om) (rm_gq_ dp) 3 (W_X6_readProducts dp ad) ∧ jCN l D vwCl (tyC cy) cy ad ftC ksC (XtC ad) yX6_readSigned (.code yX6_readSigned cX6_readSigned 3 (some .boolean) :: Om) (rm_gq_ dp) 3 (W_X6_readSigned dp ad) ∧ jCN l D vwCl (tyC cy) cy ad ftC ksC (XtC ad) yX6_readP (.code yX6_readP cX6_readP 3 (some .boolean) :: Om) (rm_gq_ dp) 3 (W_X6_readP dp ad) ∧ jCN l D vwCl (tyC cy) cy ad ftC ksC (XtC ad) yX6_readTail (.code yX6_readTail cX6_readTail 3 (some .boolean) :: Om) (rm_gq_ dp) 3 (W_X6_readTail dp ad) ∧ jCN l D vwCl (tyC cy) cy ad ftC ksC (XtC ad) yX6_readAtom (.code yX6_readAtom cX6_readAtom 1 (some .boolean) :: Om) (rm_gq_ dp) 3 (W_X6_readAtom dp ad) ∧ jCN l D vwCl (tyC cy) cy ad ftC ksC (XtC ad) yX6_readInner (.code yX6_readInner cX6_readInner 1 (some .boolean) :: Om) (rm_gq_ dp) 3 (W_X6_readInner dp ad) ∧ jCN l D vwCl (tyC cy) cy ad ftC ksC (XtC ad) yX6_readFold (.code yX6_readFold cX6_readFold 5 (some .boolean) :: Om) (rm_gq_ dp) 3 (W_X6_readFold dp ad) ∧ jCN l D vwCl (tyC cy) cy ad ftC ksC (XtC ad) yX6_readFoldBody (.code yX6_readFoldBody cX6_readFoldBody 4 (some .boolean) :: Om) (rm_gq_ dp) 3 (W_X6_readFoldBody dp ad) ∧ jCN l D vwCl (tyC cy) cy ad ftC ksC (XtC ad) yX6_readSet (.code yX6_readSet cX6_readSet 3 (some .boolean) :: Om) (rm_gq_ dp) 3 (W_X6_readSet dp ad) ∧ jCN l D vwCl (tyC cy) cy ad ftC ksC (XtC ad) yX6_readWhere (.code yX6_readWhere cX6_readWhere 2 (some .boolean) :: Om) (rm_gq_ dp) 3 (W_X6_readWhere dp ad) := by
  induction dp with
  | zero =>
    exact ⟨(fun post av M sz hR hF => by obtain ⟨c, rfl, hc, hF⟩ := hF; exact False.elim hF), (fun post av M sz hR hF => by obtain ⟨c, rfl, hc, hF⟩ := hF; exact False.elim hF), (fun post av M sz hR hF => by obtain ⟨c, rfl, hc, hF⟩ := hF; exact False.elim hF), (fun post av M sz hR hF => by obtain ⟨c, rfl, hc, hF⟩ := hF; exact False.elim hF), (fun post av M sz hR hF => by obtain ⟨c, rfl, hc, hF⟩ := hF; exact False.elim hF), (fun post av M sz hR hF => by obtain ⟨c, rfl, hc, hF⟩ := hF; exact False.elim hF), (fun post av M sz hR hF => by obtain ⟨c, rfl, hc, hF⟩ := hF; exact False.elim hF), (fun post av M sz hR hF => by obtain ⟨c, rfl, hc, hF⟩ := hF; exact False.elim hF), (fun post av M sz hR hF => by obtain ⟨c, rfl, hc, hF⟩ := hF; exact False.elim hF), (fun post av M sz hR hF => by obtain ⟨c, rfl, hc, hF⟩ := hF; exact False.elim hF), (fun post av M sz hR hF => by obtain ⟨c, rfl, hc, hF⟩ := hF; exact False.elim hF), (fun post av M sz hR hF => by obtain ⟨c, rfl, hc, hF⟩ := hF; exact False.elim hF), (fun post av M sz hR hF => by obtain ⟨c, p1, p2, rfl, hc, gp1, gp2, hF⟩ := hF; exact False.elim hF), (fun post av M sz hR hF => by obtain ⟨c, p1, rfl, hc, gp1, hF⟩ := hF; exact False.elim hF), (fun post av M sz hR hF => by obtain ⟨c, p1, rfl, hc, gp1, hF⟩ := hF; exact False.elim hF)⟩
  | succ dp ih =>
    obtain ⟨hg0, hg1, hg2, hg3, hg4, hg5, hg6, hg7, hg8, hg9, hg10, hg11, hg12, hg13, hg14⟩ := ih
    exact ⟨s_X6_readE hin hg0 hg1 hg2 hg3 hg4 hg5 hg6 hg7 hg8 hg9 hg10 hg11 hg12 hg13 hg14, s_X6_readAnds hin hg0 hg1 hg2 hg3 hg4 hg5 hg6 hg7 hg8 hg9 hg10 hg11 hg12 hg13 hg14, s_X6_readNots hin hg0 hg1 hg2 hg3 hg4 hg5 hg6 hg7 hg8 hg9 hg10 hg11 hg12 hg13 hg14, s_X6_readComparison hin hg0 hg1 hg2 hg3 hg4 hg5 hg6 hg7 hg8 hg9 hg10 hg11 hg12 hg13 hg14, s_X6_readSums hin hg0 hg1 hg2 hg3 hg4 hg5 hg6 hg7 hg8 hg9 hg10 hg11 hg12 hg13 hg14, s_X6_readProducts hin hg0 hg1 hg2 hg3 hg4 hg5 hg6 hg7 hg8 hg9 hg10 hg11 hg12 hg13 hg14, s_X6_readSigned hin hg0 hg1 hg2 hg3 hg4 hg5 hg6 hg7 hg8 hg9 hg10 hg11 hg12 hg13 hg14, s_X6_readP hin hg0 hg1 hg2 hg3 hg4 hg5 hg6 hg7 hg8 hg9 hg10 hg11 hg12 hg13 hg14, s_X6_readTail hin hg0 hg1 hg2 hg3 hg4 hg5 hg6 hg7 hg8 hg9 hg10 hg11 hg12 hg13 hg14, s_X6_readAtom hin hg0 hg1 hg2 hg3 hg4 hg5 hg6 hg7 hg8 hg9 hg10 hg11 hg12 hg13 hg14, s_X6_readInner hin hg0 hg1 hg2 hg3 hg4 hg5 hg6 hg7 hg8 hg9 hg10 hg11 hg12 hg13 hg14, s_X6_readFold hin hg0 hg1 hg2 hg3 hg4 hg5 hg6 hg7 hg8 hg9 hg10 hg11 hg12 hg13 hg14, s_X6_readFoldBody hin hg0 hg1 hg2 hg3 hg4 hg5 hg6 hg7 hg8 hg9 hg10 hg11 hg12 hg13 hg14, s_X6_readSet hin hg0 hg1 hg2 hg3 hg4 hg5 hg6 hg7 hg8 hg9 hg10 hg11 hg12 hg13 hg14, s_X6_readWhere hin hg0 hg1 hg2 hg3 hg4 hg5 hg6 hg7 hg8 hg9 hg10 hg11 hg12 hg13 hg14⟩
theorem c_X6_readE {l : Launch} {D : va_G} {cy : Nat → ClassId} {ad : Nat → Nat} (hin : jIn ad ksC.length) : jCN l D vwCl (tyC cy) cy ad ftC ksC (XtC ad) yX6_readE (.code yX6_readE cX6_readE 3 (some .boolean) :: Om) (rm_gq_ 300) 3 (W_X6_readE 300 ad) := (a_gq_ hin 300).1
theorem c_X6_readAnds {l : Launch} {D : va_G} {cy : Nat → ClassId} {ad : Nat → Nat} (hin : jIn ad ksC.length) : jCN l D vwCl (tyC cy) cy ad ftC ksC (XtC ad) yX6_readAnds (.code yX6_readAnds cX6_readAnds 3 (some .boolean) :: Om) (rm_gq_ 300) 3 (W_X6_readAnds 300 ad) := (a_gq_ hin 300).2.1
theorem c_X6_readNots {l : Launch} {D : va_G} {cy : Nat → ClassId} {ad : Nat → Nat} (hin : jIn ad ksC.length) : jCN l D vwCl (tyC cy) cy ad ftC ksC (XtC ad) yX6_readNots (.code yX6_readNots cX6_readNots 3 (some .boolean) :: Om) (rm_gq_ 300) 3 (W_X6_readNots 300 ad) := (a_gq_ hin 300).2.2.1
theorem c_X6_readComparison {l : Launch} {D : va_G} {cy : Nat → ClassId} {ad : Nat → Nat} (hin : jIn ad ksC.length) : jCN l D vwCl (tyC cy) cy ad ftC ksC (XtC ad) yX6_readComparison (.code yX6_readComparison cX6_readComparison 2 (some .boolean) :: Om) (rm_gq_ 300) 3 (W_X6_readComparison 300 ad) := (a_gq_ hin 300).2.2.2.1
theorem c_X6_readSums {l : Launch} {D : va_G} {cy : Nat → ClassId} {ad : Nat → Nat} (hin : jIn ad ksC.length) : jCN l D vwCl (tyC cy) cy ad ftC ksC (XtC ad) yX6_readSums (.code yX6_readSums cX6_readSums 3 (some .boolean) :: Om) (rm_gq_ 300) 3 (W_X6_readSums 300 ad) := (a_gq_ hin 300).2.2.2.2.1
theorem c_X6_readProducts {l : Launch} {D : va_G} {cy : Nat → ClassId} {ad : Nat → Nat} (hin : jIn ad ksC.length) : jCN l D vwCl (tyC cy) cy ad ftC ksC (XtC ad) yX6_readProducts (.code yX6_readProducts cX6_readProducts 3 (some .boolean) :: Om) (rm_gq_ 300) 3 (W_X6_readProducts 300 ad) := (a_gq_ hin 300).2.2.2.2.2.1
theorem c_X6_readSigned {l : Launch} {D : va_G} {cy : Nat → ClassId} {ad : Nat → Nat} (hin : jIn ad ksC.length) : jCN l D vwCl (tyC cy) cy ad ftC ksC (XtC ad) yX6_readSigned (.code yX6_readSigned cX6_readSigned 3 (some .boolean) :: Om) (rm_gq_ 300) 3 (W_X6_readSigned 300 ad) := (a_gq_ hin 300).2.2.2.2.2.2.1
theorem c_X6_readP {l : Launch} {D : va_G} {cy : Nat → ClassId} {ad : Nat → Nat} (hin : jIn ad ksC.length) : jCN l D vwCl (tyC cy) cy ad ftC ksC (XtC ad) yX6_readP (.code yX6_readP cX6_readP 3 (some .boolean) :: Om) (rm_gq_ 300) 3 (W_X6_readP 300 ad) := (a_gq_ hin 300).2.2.2.2.2.2.2.1
theorem c_X6_readTail {l : Launch} {D : va_G} {cy : Nat → ClassId} {ad : Nat → Nat} (hin : jIn ad ksC.length) : jCN l D vwCl (tyC cy) cy ad ftC ksC (XtC ad) yX6_readTail (.code yX6_readTail cX6_readTail 3 (some .boolean) :: Om) (rm_gq_ 300) 3 (W_X6_readTail 300 ad) := (a_gq_ hin 300).2.2.2.2.2.2.2.2.1
theorem c_X6_readAtom {l : Launch} {D : va_G} {cy : Nat → ClassId} {ad : Nat → Nat} (hin : jIn ad ksC.length) : jCN l D vwCl (tyC cy) cy ad ftC ksC (XtC ad) yX6_readAtom (.code yX6_readAtom cX6_readAtom 1 (some .boolean) :: Om) (rm_gq_ 300) 3 (W_X6_readAtom 300 ad) := (a_gq_ hin 300).2.2.2.2.2.2.2.2.2.1
theorem c_X6_readInner {l : Launch} {D : va_G} {cy : Nat → ClassId} {ad : Nat → Nat} (hin : jIn ad ksC.length) : jCN l D vwCl (tyC cy) cy ad ftC ksC (XtC ad) yX6_readInner (.code yX6_readInner cX6_readInner 1 (some .boolean) :: Om) (rm_gq_ 300) 3 (W_X6_readInner 300 ad) := (a_gq_ hin 300).2.2.2.2.2.2.2.2.2.2.1
theorem c_X6_readFold {l : Launch} {D : va_G} {cy : Nat → ClassId} {ad : Nat → Nat} (hin : jIn ad ksC.length) : jCN l D vwCl (tyC cy) cy ad ftC ksC (XtC ad) yX6_readFold (.code yX6_readFold cX6_readFold 5 (some .boolean) :: Om) (rm_gq_ 300) 3 (W_X6_readFold 300 ad) := (a_gq_ hin 300).2.2.2.2.2.2.2.2.2.2.2.1
theorem c_X6_readFoldBody {l : Launch} {D : va_G} {cy : Nat → ClassId} {ad : Nat → Nat} (hin : jIn ad ksC.length) : jCN l D vwCl (tyC cy) cy ad ftC ksC (XtC ad) yX6_readFoldBody (.code yX6_readFoldBody cX6_readFoldBody 4 (some .boolean) :: Om) (rm_gq_ 300) 3 (W_X6_readFoldBody 300 ad) := (a_gq_ hin 300).2.2.2.2.2.2.2.2.2.2.2.2.1
theorem c_X6_readSet {l : Launch} {D : va_G} {cy : Nat → ClassId} {ad : Nat → Nat} (hin : jIn ad ksC.length) : jCN l D vwCl (tyC cy) cy ad ftC ksC (XtC ad) yX6_readSet (.code yX6_readSet cX6_readSet 3 (some .boolean) :: Om) (rm_gq_ 300) 3 (W_X6_readSet 300 ad) := (a_gq_ hin 300).2.2.2.2.2.2.2.2.2.2.2.2.2.1
theorem c_X6_readWhere {l : Launch} {D : va_G} {cy : Nat → ClassId} {ad : Nat → Nat} (hin : jIn ad ksC.length) : jCN l D vwCl (tyC cy) cy ad ftC ksC (XtC ad) yX6_readWhere (.code yX6_readWhere cX6_readWhere 2 (some .boolean) :: Om) (rm_gq_ 300) 3 (W_X6_readWhere 300 ad) := (a_gq_ hin 300).2.2.2.2.2.2.2.2.2.2.2.2.2.2
