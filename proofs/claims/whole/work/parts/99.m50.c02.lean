def W_X1_workOut (ad : Nat → Nat) (Q : Int → MM → Prop) (av : List Value) (M : MM) : Prop := ∃ (p2 : Nat), av = [.ref (ad 274), .ref (ad 261), .ref (ad p2)] ∧ isP p2 ∧ w_X1_workOut p2 Q  M
set_option maxHeartbeats 4000000 in
set_option maxRecDepth 100000 in
theorem k_X1_workOut_b92 {l : Launch} {D : va_G} {cy : Nat → ClassId} {ad : Nat → Nat} {Q : Int → MM → Prop} {J : Nat → List (Nat × Value) → List Value → MM → Prop} (hin : jIn ad ksC.length) {p2 : Nat} (hp2 : isP p2) (hJ : jOk l D vwCl (tyC cy) cy ad ftC ksC (XtC ad) Om RX1 cX1_workOut 5 0 ({ frames := 15, cells := 0, slots := 0, locals := 420 } : Room) Q J) {K71 : Int → MM → Prop} (hK71 : ∀ (x3 : Int) (M : MM), ri_ x3 → K71 x3 M → J 71 [(0, .ref (ad 274)), (3, .int (Ii x3))] [] M) : ∀ (x3 x4 : Int) (M : MM), ri_ x3 → ri_ x4 → w_X1_workOut_b92 p2 Q K71 x3 x4 M → J 92 [(0, .ref (ad 274)), (3, .int (Ii x3)), (4, .int (Ii x4))] [] M := by
  have H9 : ∀ (n : Nat) (x3 x4 : Int) (M : MM), ri_ x3 → ri_ x4 → jit (fun _ _ _ => False) (wb_X1_workOut_b92 p2 Q K71) n x3 x4 M → J 92 [(0, .ref (ad 274)), (3, .int (Ii x3)), (4, .int (Ii x4))] [] M := by
    intro n
    induction n with
    | zero => intro x3 x4 M gx3 gx4 hF; exact False.elim hF
    | succ n ih =>
    intro x3 x4 M gx3 gx4 hF
    have hF : wb_X1_workOut_b92 p2 Q K71 (jit (fun _ _ _ => False) (wb_X1_workOut_b92 p2 Q K71) n) x3 x4 M := hF
    unfold wb_X1_workOut_b92 at hF
    refine j_iload hJ dX1_workOut_92 2 rfl ?_
    refine j_aload_n hJ dX1_workOut_94 rfl 0 rfl ?_
    have ec1 := hF.1; have hF := hF.2
    refine j_gq (v := 261) hJ kC_274 fC_4_8 rfl fl_X1_34 dX1_workOut_95 ec1 ?_
    refine j_gi hJ kC_261 fC_10_3 rfl fl_X1_73 dX1_workOut_98 (fun v2 ev2 gv2 => ?_)
    have hF := hF v2 ev2 gv2
    refine j_icmp_ge hJ 117 gx4 gv2 dX1_workOut_101 (by decide) (fun z3 => ?_) (fun z3 => ?_)
    · have hF := hF.1 z3
      refine j_iinc (lv' := [(3, .int (Ii (x3 + 1))), (0, .ref (ad 274)), (4, .int (Ii x4))]) (k := 1) hJ dX1_workOut_117 rfl (by decide) rfl ?_
      have g4 := hF.1; have hF := hF.2
      refine j_goto hJ 71 dX1_workOut_120 (by decide) ?_
      exact j_sub hJ [1, 0] rfl (hK71 (x3 + 1) _ g4 hF)
    · have hF := hF.2 z3
      refine j_aload_n hJ dX1_workOut_104 rfl 0 rfl ?_
      refine j_iload hJ dX1_workOut_105 2 rfl ?_
      refine j_iconst hJ dX1_workOut_107 ?_
      refine j_callVv hJ (c_X1_tryThings (l := l) (D := D) (cy := cy) (ad := ad) hin) rfl om_165 ⟨rfl, rfl, Nat.le_of_ble_eq_true rfl, Nat.le_of_ble_eq_true rfl⟩ [.int (Ii x4), .int (Ii 0)] mv_X1_76 hd_X1_tryThingsv kC_274 rfl rfl rfl (Nat.le_of_ble_eq_true rfl) dX1_workOut_108 ⟨x4, 0, rfl, gx4, rk_0, hF⟩ (fun M6 qM6 => ?_)
      have hF := qM6
      refine j_iinc (lv' := [(4, .int (Ii (x4 + 1))), (0, .ref (ad 274)), (3, .int (Ii x3))]) (k := 2) hJ dX1_workOut_111 rfl (by decide) rfl ?_
      have g7 := hF.1; have hF := hF.2
      refine j_goto hJ 92 dX1_workOut_114 (by decide) ?_
      exact j_sub hJ [1, 2, 0] rfl (ih x3 (x4 + 1) _ gx3 g7 hF)
  intro x3 x4 M gx3 gx4 hF
  obtain ⟨n, hF⟩ := hF
  exact H9 n x3 x4 M gx3 gx4 hF
set_option maxHeartbeats 4000000 in
set_option maxRecDepth 100000 in
theorem k_X1_workOut_b71 {l : Launch} {D : va_G} {cy : Nat → ClassId} {ad : Nat → Nat} {Q : Int → MM → Prop} {J : Nat → List (Nat × Value) → List Value → MM → Prop} (hin : jIn ad ksC.length) {p2 : Nat} (hp2 : isP p2) (hJ : jOk l D vwCl (tyC cy) cy ad ftC ksC (XtC ad) Om RX1 cX1_workOut 5 0 ({ frames := 15, cells := 0, slots := 0, locals := 420 } : Room) Q J)  : ∀ (x3 : Int) (M : MM), ri_ x3 → w_X1_workOut_b71 p2 Q  x3 M → J 71 [(0, .ref (ad 274)), (3, .int (Ii x3))] [] M := by
  have H9 : ∀ (n : Nat) (x3 : Int) (M : MM), ri_ x3 → jit (fun _ _ => False) (wb_X1_workOut_b71 p2 Q ) n x3 M → J 71 [(0, .ref (ad 274)), (3, .int (Ii x3))] [] M := by
    intro n
    induction n with
    | zero => intro x3 M gx3 hF; exact False.elim hF
    | succ n ih =>
    intro x3 M gx3 hF
    have hF : wb_X1_workOut_b71 p2 Q  (jit (fun _ _ => False) (wb_X1_workOut_b71 p2 Q ) n) x3 M := hF
    unfold wb_X1_workOut_b71 at hF
    refine j_iload_n hJ dX1_workOut_71 rfl 1 rfl ?_
    refine j_ldc hJ 1000000 om_159 (by decide) dX1_workOut_72 ?_
    refine j_icmp_ge hJ 123 gx3 rk_1000000 dX1_workOut_74 (by decide) (fun z1 => ?_) (fun z1 => ?_)
    · have hF := hF.1 z1
      exact j_vret hJ rfl dX1_workOut_123 hF
    · have hF := hF.2 z1
      refine j_aload_n hJ dX1_workOut_77 rfl 0 rfl ?_
      refine j_gz hJ kC_274 fC_4_9 rfl fl_X1_68 dX1_workOut_78 (fun v2 ev2 gv2 => ?_)
      have hF := hF v2 ev2 gv2
      refine j_if_eq hJ 123 (jz_ri gv2) dX1_workOut_81 (by decide) (fun z3 => ?_) (fun z3 => ?_)
      · have hF := hF.1 z3
        exact j_vret hJ rfl dX1_workOut_123 hF
      · have hF := hF.2 z3
        refine j_aload_n hJ dX1_workOut_84 rfl 0 rfl ?_
        refine j_iconst hJ dX1_workOut_85 ?_
        refine j_pz hJ (by decide) kC_274 fC_4_9 rfl fp_X1_68 dX1_workOut_86 (fun M4 eM4 => ?_)
        have hF := hF M4 eM4
        refine j_iconst hJ dX1_workOut_89 ?_
        refine j_istore (lv' := [(4, .int (Ii 0)), (0, .ref (ad 274)), (3, .int (Ii x3))]) hJ dX1_workOut_90 (by decide) rfl ?_
        exact j_sub hJ [1, 2, 0] rfl (k_X1_workOut_b92 hin hp2 hJ ih x3 0 _ gx3 rk_0 hF)
  intro x3 M gx3 hF
  obtain ⟨n, hF⟩ := hF
  exact H9 n x3 M gx3 hF
set_option maxHeartbeats 4000000 in
set_option maxRecDepth 100000 in
theorem c_X1_workOut {l : Launch} {D : va_G} {cy : Nat → ClassId} {ad : Nat → Nat} (hin : jIn ad ksC.length) : jCN l D vwCl (tyC cy) cy ad ftC ksC (XtC ad) yX1_workOut (.code yX1_workOut cX1_workOut 5 none :: Om) ({ frames := 15, cells := 0, slots := 0, locals := 420 } : Room) 0 (W_X1_workOut ad) := by
  refine jCN_of (y := yX1_workOut) (cc := cX1_workOut) (nL := 5) (rk := 0) (rm := ({ frames := 15, cells := 0, slots := 0, locals := 420 } : Room)) (own := RX1) (tyC_ok cy) hin (XtC_ok ad) Om_good (by decide) rfl ?_
  intro Q av M hF
  obtain ⟨p2, rfl, hp2, hF⟩ := hF
  refine ⟨Nat.le_of_ble_eq_true rfl, fun J hJ => ?_⟩
  show J 0 [(0, .ref (ad 274)), (1, .ref (ad 261)), (2, .ref (ad p2))] [] M
  unfold w_X1_workOut at hF
  refine j_aload_n hJ dX1_workOut_0 rfl 0 rfl ?_
  refine j_aload_n hJ dX1_workOut_1 rfl 1 rfl ?_
  refine j_pq hJ (by unfold ri_; omega) kC_274 fC_4_8 rfl fp_X1_34 dX1_workOut_2 (fun M1 eM1 => ?_)
  have hF := hF M1 eM1
  refine j_aload_n hJ dX1_workOut_5 rfl 0 rfl ?_
  refine j_aload_n hJ dX1_workOut_6 rfl 2 rfl ?_
  refine j_gi hJ (kP_0 hp2) fC_8_0 rfl fl_X1_38 dX1_workOut_7 (fun v2 ev2 gv2 => ?_)
  have hF := hF v2 ev2 gv2
  refine j_bipush hJ dX1_workOut_10 (by decide) ?_
  refine j_mmin hJ gv2 rk_40 ⟨om_136, om_11, om_12, om_13⟩ ⟨Nat.le_of_ble_eq_true rfl, Nat.le_of_ble_eq_true rfl⟩ dX1_workOut_12 ?_
  refine j_pi hJ (ri_min gv2 rk_40) kC_274 fC_4_1 rfl fp_X1_50 dX1_workOut_15 (fun M3 eM3 => ?_)
  have hF := hF M3 eM3
  refine j_aload_n hJ dX1_workOut_18 rfl 0 rfl ?_
  refine j_lconst (x := 1) hJ dX1_workOut_19 rfl ?_
  refine j_aload_n hJ dX1_workOut_20 rfl 0 rfl ?_
  refine j_gi hJ kC_274 fC_4_1 rfl fl_X1_50 dX1_workOut_21 (fun v4 ev4 gv4 => ?_)
  have hF := hF v4 ev4 gv4
  refine j_lshl hJ dX1_workOut_24 ?_
  refine j_lconst (x := 1) hJ dX1_workOut_25 rfl ?_
  refine j_lsubw hJ dX1_workOut_26 ?_
  refine j_pl hJ (rl_w _) kC_274 fC_4_2 rfl fp_X1_51 dX1_workOut_27 (fun M5 eM5 => ?_)
  have hF := hF M5 eM5
  refine j_aload_n hJ dX1_workOut_30 rfl 0 rfl ?_
  refine j_gr (e := 275) hJ kC_274 fC_4_3 fl_X1_15 dX1_workOut_31 rfl ?_
  refine j_lconst (x := 0) hJ dX1_workOut_34 rfl ?_
  refine j_callSv hJ (c_J7_fill_d0a16_C (l := l) (D := D) (cy := cy) (ad := ad) hin) rfl om_137 ⟨rfl, rfl, Nat.le_of_ble_eq_true rfl, Nat.le_of_ble_eq_true rfl⟩ [.ref (ad 275), .long (Ll 0)] mv_X1_55 hd_J7_fill_d0a16 rfl (Nat.le_of_ble_eq_true rfl) dX1_workOut_35 ⟨275, 360, 0, rfl, kC_275, (by decide), lkm_0, hF⟩ (fun M7 qM7 => ?_)
  have hF := qM7
  refine j_aload_n hJ dX1_workOut_38 rfl 0 rfl ?_
  refine j_gr (e := 276) hJ kC_274 fC_4_4 fl_X1_19 dX1_workOut_39 rfl ?_
  refine j_lconst (x := 0) hJ dX1_workOut_42 rfl ?_
  refine j_callSv hJ (c_J7_fill_d0a16_C (l := l) (D := D) (cy := cy) (ad := ad) hin) rfl om_137 ⟨rfl, rfl, Nat.le_of_ble_eq_true rfl, Nat.le_of_ble_eq_true rfl⟩ [.ref (ad 276), .long (Ll 0)] mv_X1_55 hd_J7_fill_d0a16 rfl (Nat.le_of_ble_eq_true rfl) dX1_workOut_43 ⟨276, 360, 0, rfl, kC_276, (by decide), lkm_0, hF⟩ (fun M9 qM9 => ?_)
  have hF := qM9
  refine j_aload_n hJ dX1_workOut_46 rfl 0 rfl ?_
  refine j_gr (e := 277) hJ kC_274 fC_4_5 fl_X1_22 dX1_workOut_47 rfl ?_
  refine j_lconst (x := 0) hJ dX1_workOut_50 rfl ?_
  refine j_callSv hJ (c_J7_fill_d0a16_C (l := l) (D := D) (cy := cy) (ad := ad) hin) rfl om_137 ⟨rfl, rfl, Nat.le_of_ble_eq_true rfl, Nat.le_of_ble_eq_true rfl⟩ [.ref (ad 277), .long (Ll 0)] mv_X1_55 hd_J7_fill_d0a16 rfl (Nat.le_of_ble_eq_true rfl) dX1_workOut_51 ⟨277, 9, 0, rfl, kC_277, (by decide), lkm_0, hF⟩ (fun M11 qM11 => ?_)
  have hF := qM11
  refine j_aload_n hJ dX1_workOut_54 rfl 0 rfl ?_
  refine j_aload_n hJ dX1_workOut_55 rfl 2 rfl ?_
  refine j_callVv hJ (c_X1_addGiven (l := l) (D := D) (cy := cy) (ad := ad) hin) rfl om_147 ⟨rfl, rfl, Nat.le_of_ble_eq_true rfl, Nat.le_of_ble_eq_true rfl⟩ [.ref (ad p2)] mv_X1_61 hd_X1_addGivenv kC_274 rfl rfl rfl (Nat.le_of_ble_eq_true rfl) dX1_workOut_56 ⟨p2, rfl, hp2, hF⟩ (fun M13 qM13 => ?_)
  have hF := qM13
  refine j_aload_n hJ dX1_workOut_59 rfl 0 rfl ?_
  refine j_aload_n hJ dX1_workOut_60 rfl 2 rfl ?_
  refine j_callVv hJ (c_X1_findClasses (l := l) (D := D) (cy := cy) (ad := ad) hin) rfl om_155 ⟨rfl, rfl, Nat.le_of_ble_eq_true rfl, Nat.le_of_ble_eq_true rfl⟩ [.ref (ad p2)] mv_X1_65 hd_X1_findClassesv kC_274 rfl rfl rfl (Nat.le_of_ble_eq_true rfl) dX1_workOut_61 ⟨p2, rfl, hp2, hF⟩ (fun M15 qM15 => ?_)
  have hF := qM15
  refine j_aload_n hJ dX1_workOut_64 rfl 0 rfl ?_
  refine j_iconst hJ dX1_workOut_65 ?_
  refine j_pz hJ (by decide) kC_274 fC_4_9 rfl fp_X1_68 dX1_workOut_66 (fun M16 eM16 => ?_)
  have hF := hF M16 eM16
  refine j_iconst hJ dX1_workOut_69 ?_
  refine j_istore_n (lv' := [(3, .int (Ii 0)), (0, .ref (ad 274)), (1, .ref (ad 261)), (2, .ref (ad p2))]) hJ dX1_workOut_70 rfl (by decide) rfl ?_
  exact j_sub hJ [1, 0] rfl (k_X1_workOut_b71 hin hp2 hJ  0 _ rk_0 hF)
def W_J13_bitCount_95d88_C (ad : Nat → Nat) (Q : Int → MM → Prop) (av : List Value) (M : MM) : Prop := ∃ (p1 : Int), av = [.long (Ll p1)] ∧ rl_ p1 ∧ w_J13_bitCount_95d88_C  Q p1 M
set_option maxHeartbeats 4000000 in
set_option maxRecDepth 100000 in
theorem c_J13_bitCount_95d88_C {l : Launch} {D : va_G} {cy : Nat → ClassId} {ad : Nat → Nat} (hin : jIn ad ksC.length) : jCN l D vwCl (tyC cy) cy ad ftC ksC (XtC ad) yJ13_bitCount_95d88 (.code yJ13_bitCount_95d88 cJ13_bitCount_95d88 2 (some .int) :: Om) ({ frames := 0, cells := 0, slots := 0, locals := 0 } : Room) 1 (W_J13_bitCount_95d88_C ad) := by
  refine jCN_of (y := yJ13_bitCount_95d88) (cc := cJ13_bitCount_95d88) (nL := 2) (rk := 1) (rm := ({ frames := 0, cells := 0, slots := 0, locals := 0 } : Room)) (own := RJ13) (tyC_ok cy) hin (XtC_ok ad) Om_good (by decide) rfl ?_
  intro Q av M hF
  obtain ⟨p1, rfl, gp1, hF⟩ := hF
  refine ⟨Nat.le_of_ble_eq_true rfl, fun J hJ => ?_⟩
  show J 0 [(0, .long (Ll p1))] [] M
  unfold w_J13_bitCount_95d88_C at hF
  refine j_lload_n hJ dJ13_bitCount_95d88_0 rfl 0 rfl ?_
  refine j_lload_n hJ dJ13_bitCount_95d88_1 rfl 0 rfl ?_
  refine j_iconst hJ dJ13_bitCount_95d88_2 ?_
  refine j_lushr hJ dJ13_bitCount_95d88_3 ?_
  refine j_ldc2 hJ 6148914691236517205 om_169 (by decide) dJ13_bitCount_95d88_4 ?_
  refine j_land hJ dJ13_bitCount_95d88_7 ?_
  refine j_lsubw hJ dJ13_bitCount_95d88_8 ?_
  refine j_lstore_n (lv' := [(0, .long (Ll (w64 (p1 - (jland (jlushr p1 1) 6148914691236517205)))))]) hJ dJ13_bitCount_95d88_9 rfl (by decide) rfl ?_
  refine j_lload_n hJ dJ13_bitCount_95d88_10 rfl 0 rfl ?_
  refine j_ldc2 hJ 3689348814741910323 om_170 (by decide) dJ13_bitCount_95d88_11 ?_
  refine j_land hJ dJ13_bitCount_95d88_14 ?_
  refine j_lload_n hJ dJ13_bitCount_95d88_15 rfl 0 rfl ?_
  refine j_iconst hJ dJ13_bitCount_95d88_16 ?_
  refine j_lushr hJ dJ13_bitCount_95d88_17 ?_
  refine j_ldc2 hJ 3689348814741910323 om_170 (by decide) dJ13_bitCount_95d88_18 ?_
  refine j_land hJ dJ13_bitCount_95d88_21 ?_
  refine j_laddw hJ dJ13_bitCount_95d88_22 ?_
  refine j_lstore_n (lv' := [(0, .long (Ll (w64 ((jland (w64 (p1 - (jland (jlushr p1 1) 6148914691236517205))) 3689348814741910323) + (jland (jlushr (w64 (p1 - (jland (jlushr p1 1) 6148914691236517205))) 2) 3689348814741910323)))))]) hJ dJ13_bitCount_95d88_23 rfl (by decide) rfl ?_
  refine j_lload_n hJ dJ13_bitCount_95d88_24 rfl 0 rfl ?_
  refine j_lload_n hJ dJ13_bitCount_95d88_25 rfl 0 rfl ?_
  refine j_iconst hJ dJ13_bitCount_95d88_26 ?_
  refine j_lushr hJ dJ13_bitCount_95d88_27 ?_
  refine j_laddw hJ dJ13_bitCount_95d88_28 ?_
  refine j_ldc2 hJ 1085102592571150095 om_171 (by decide) dJ13_bitCount_95d88_29 ?_
  refine j_land hJ dJ13_bitCount_95d88_32 ?_
  refine j_lstore_n (lv' := [(0, .long (Ll (jland (w64 ((w64 ((jland (w64 (p1 - (jland (jlushr p1 1) 6148914691236517205))) 3689348814741910323) + (jland (jlushr (w64 (p1 - (jland (jlushr p1 1) 6148914691236517205))) 2) 3689348814741910323))) + (jlushr (w64 ((jland (w64 (p1 - (jland (jlushr p1 1) 6148914691236517205))) 3689348814741910323) + (jland (jlushr (w64 (p1 - (jland (jlushr p1 1) 6148914691236517205))) 2) 3689348814741910323))) 4))) 1085102592571150095)))]) hJ dJ13_bitCount_95d88_33 rfl (by decide) rfl ?_
  refine j_lload_n hJ dJ13_bitCount_95d88_34 rfl 0 rfl ?_
  refine j_lload_n hJ dJ13_bitCount_95d88_35 rfl 0 rfl ?_
  refine j_bipush hJ dJ13_bitCount_95d88_36 (by decide) ?_
  refine j_lushr hJ dJ13_bitCount_95d88_38 ?_
  refine j_laddw hJ dJ13_bitCount_95d88_39 ?_
  refine j_lstore_n (lv' := [(0, .long (Ll (w64 ((jland (w64 ((w64 ((jland (w64 (p1 - (jland (jlushr p1 1) 6148914691236517205))) 3689348814741910323) + (jland (jlushr (w64 (p1 - (jland (jlushr p1 1) 6148914691236517205))) 2) 3689348814741910323))) + (jlushr (w64 ((jland (w64 (p1 - (jland (jlushr p1 1) 6148914691236517205))) 3689348814741910323) + (jland (jlushr (w64 (p1 - (jland (jlushr p1 1) 6148914691236517205))) 2) 3689348814741910323))) 4))) 1085102592571150095) + (jlushr (jland (w64 ((w64 ((jland (w64 (p1 - (jland (jlushr p1 1) 6148914691236517205))) 3689348814741910323) + (jland (jlushr (w64 (p1 - (jland (jlushr p1 1) 6148914691236517205))) 2) 3689348814741910323))) + (jlushr (w64 ((jland (w64 (p1 - (jland (jlushr p1 1) 6148914691236517205))) 3689348814741910323) + (jland (jlushr (w64 (p1 - (jland (jlushr p1 1) 6148914691236517205))) 2) 3689348814741910323))) 4))) 1085102592571150095) 8)))))]) hJ dJ13_bitCount_95d88_40 rfl (by decide) rfl ?_
  refine j_lload_n hJ dJ13_bitCount_95d88_41 rfl 0 rfl ?_
  refine j_lload_n hJ dJ13_bitCount_95d88_42 rfl 0 rfl ?_
  refine j_bipush hJ dJ13_bitCount_95d88_43 (by decide) ?_
  refine j_lushr hJ dJ13_bitCount_95d88_45 ?_
  refine j_laddw hJ dJ13_bitCount_95d88_46 ?_
  refine j_lstore_n (lv' := [(0, .long (Ll (w64 ((w64 ((jland (w64 ((w64 ((jland (w64 (p1 - (jland (jlushr p1 1) 6148914691236517205))) 3689348814741910323) + (jland (jlushr (w64 (p1 - (jland (jlushr p1 1) 6148914691236517205))) 2) 3689348814741910323))) + (jlushr (w64 ((jland (w64 (p1 - (jland (jlushr p1 1) 6148914691236517205))) 3689348814741910323) + (jland (jlushr (w64 (p1 - (jland (jlushr p1 1) 6148914691236517205))) 2) 3689348814741910323))) 4))) 1085102592571150095) + (jlushr (jland (w64 ((w64 ((jland (w64 (p1 - (jland (jlushr p1 1) 6148914691236517205))) 3689348814741910323) + (jland (jlushr (w64 (p1 - (jland (jlushr p1 1) 6148914691236517205))) 2) 3689348814741910323))) + (jlushr (w64 ((jland (w64 (p1 - (jland (jlushr p1 1) 6148914691236517205))) 3689348814741910323) + (jland (jlushr (w64 (p1 - (jland (jlushr p1 1) 6148914691236517205))) 2) 3689348814741910323))) 4))) 1085102592571150095) 8))) + (jlushr (w64 ((jland (w64 ((w64 ((jland (w64 (p1 - (jland (jlushr p1 1) 6148914691236517205))) 3689348814741910323) + (jland (jlushr (w64 (p1 - (jland (jlushr p1 1) 6148914691236517205))) 2) 3689348814741910323))) + (jlushr (w64 ((jland (w64 (p1 - (jland (jlushr p1 1) 6148914691236517205))) 3689348814741910323) + (jland (jlushr (w64 (p1 - (jland (jlushr p1 1) 6148914691236517205))) 2) 3689348814741910323))) 4))) 1085102592571150095) + (jlushr (jland (w64 ((w64 ((jland (w64 (p1 - (jland (jlushr p1 1) 6148914691236517205))) 3689348814741910323) + (jland (jlushr (w64 (p1 - (jland (jlushr p1 1) 6148914691236517205))) 2) 3689348814741910323))) + (jlushr (w64 ((jland (w64 (p1 - (jland (jlushr p1 1) 6148914691236517205))) 3689348814741910323) + (jland (jlushr (w64 (p1 - (jland (jlushr p1 1) 6148914691236517205))) 2) 3689348814741910323))) 4))) 1085102592571150095) 8))) 16)))))]) hJ dJ13_bitCount_95d88_47 rfl (by decide) rfl ?_
  refine j_lload_n hJ dJ13_bitCount_95d88_48 rfl 0 rfl ?_
  refine j_lload_n hJ dJ13_bitCount_95d88_49 rfl 0 rfl ?_
  refine j_bipush hJ dJ13_bitCount_95d88_50 (by decide) ?_
  refine j_lushr hJ dJ13_bitCount_95d88_52 ?_
  refine j_laddw hJ dJ13_bitCount_95d88_53 ?_
  refine j_lstore_n (lv' := [(0, .long (Ll (w64 ((w64 ((w64 ((jland (w64 ((w64 ((jland (w64 (p1 - (jland (jlushr p1 1) 6148914691236517205))) 3689348814741910323) + (jland (jlushr (w64 (p1 - (jland (jlushr p1 1) 6148914691236517205))) 2) 3689348814741910323))) + (jlushr (w64 ((jland (w64 (p1 - (jland (jlushr p1 1) 6148914691236517205))) 3689348814741910323) + (jland (jlushr (w64 (p1 - (jland (jlushr p1 1) 6148914691236517205))) 2) 3689348814741910323))) 4))) 1085102592571150095) + (jlushr (jland (w64 ((w64 ((jland (w64 (p1 - (jland (jlushr p1 1) 6148914691236517205))) 3689348814741910323) + (jland (jlushr (w64 (p1 - (jland (jlushr p1 1) 6148914691236517205))) 2) 3689348814741910323))) + (jlushr (w64 ((jland (w64 (p1 - (jland (jlushr p1 1) 6148914691236517205))) 3689348814741910323) + (jland (jlushr (w64 (p1 - (jland (jlushr p1 1) 6148914691236517205))) 2) 3689348814741910323))) 4))) 1085102592571150095) 8))) + (jlushr (w64 ((jland (w64 ((w64 ((jland (w64 (p1 - (jland (jlushr p1 1) 6148914691236517205))) 3689348814741910323) + (jland (jlushr (w64 (p1 - (jland (jlushr p1 1) 6148914691236517205))) 2) 3689348814741910323))) + (jlushr (w64 ((jland (w64 (p1 - (jland (jlushr p1 1) 6148914691236517205))) 3689348814741910323) + (jland (jlushr (w64 (p1 - (jland (jlushr p1 1) 6148914691236517205))) 2) 3689348814741910323))) 4))) 1085102592571150095) + (jlushr (jland (w64 ((w64 ((jland (w64 (p1 - (jland (jlushr p1 1) 6148914691236517205))) 3689348814741910323) + (jland (jlushr (w64 (p1 - (jland (jlushr p1 1) 6148914691236517205))) 2) 3689348814741910323))) + (jlushr (w64 ((jland (w64 (p1 - (jland (jlushr p1 1) 6148914691236517205))) 3689348814741910323) + (jland (jlushr (w64 (p1 - (jland (jlushr p1 1) 6148914691236517205))) 2) 3689348814741910323))) 4))) 1085102592571150095) 8))) 16))) + (jlushr (w64 ((w64 ((jland (w64 ((w64 ((jland (w64 (p1 - (jland (jlushr p1 1) 6148914691236517205))) 3689348814741910323) + (jland (jlushr (w64 (p1 - (jland (jlushr p1 1) 6148914691236517205))) 2) 3689348814741910323))) + (jlushr (w64 ((jland (w64 (p1 - (jland (jlushr p1 1) 6148914691236517205))) 3689348814741910323) + (jland (jlushr (w64 (p1 - (jland (jlushr p1 1) 6148914691236517205))) 2) 3689348814741910323))) 4))) 1085102592571150095) + (jlushr (jland (w64 ((w64 ((jland (w64 (p1 - (jland (jlushr p1 1) 6148914691236517205))) 3689348814741910323) + (jland (jlushr (w64 (p1 - (jland (jlushr p1 1) 6148914691236517205))) 2) 3689348814741910323))) + (jlushr (w64 ((jland (w64 (p1 - (jland (jlushr p1 1) 6148914691236517205))) 3689348814741910323) + (jland (jlushr (w64 (p1 - (jland (jlushr p1 1) 6148914691236517205))) 2) 3689348814741910323))) 4))) 1085102592571150095) 8))) + (jlushr (w64 ((jland (w64 ((w64 ((jland (w64 (p1 - (jland (jlushr p1 1) 6148914691236517205))) 3689348814741910323) + (jland (jlushr (w64 (p1 - (jland (jlushr p1 1) 6148914691236517205))) 2) 3689348814741910323))) + (jlushr (w64 ((jland (w64 (p1 - (jland (jlushr p1 1) 6148914691236517205))) 3689348814741910323) + (jland (jlushr (w64 (p1 - (jland (jlushr p1 1) 6148914691236517205))) 2) 3689348814741910323))) 4))) 1085102592571150095) + (jlushr (jland (w64 ((w64 ((jland (w64 (p1 - (jland (jlushr p1 1) 6148914691236517205))) 3689348814741910323) + (jland (jlushr (w64 (p1 - (jland (jlushr p1 1) 6148914691236517205))) 2) 3689348814741910323))) + (jlushr (w64 ((jland (w64 (p1 - (jland (jlushr p1 1) 6148914691236517205))) 3689348814741910323) + (jland (jlushr (w64 (p1 - (jland (jlushr p1 1) 6148914691236517205))) 2) 3689348814741910323))) 4))) 1085102592571150095) 8))) 16))) 32)))))]) hJ dJ13_bitCount_95d88_54 rfl (by decide) rfl ?_
  refine j_lload_n hJ dJ13_bitCount_95d88_55 rfl 0 rfl ?_
  refine j_l2iw hJ dJ13_bitCount_95d88_56 ?_
  refine j_bipush hJ dJ13_bitCount_95d88_57 (by decide) ?_
  refine j_iand hJ dJ13_bitCount_95d88_59 ?_
  exact j_iret hJ rfl (ri_of _) dJ13_bitCount_95d88_60 hF
def W_X1_countOf (ad : Nat → Nat) (Q : Int → MM → Prop) (av : List Value) (M : MM) : Prop := ∃ (p1 : Int), av = [.ref (ad 274), .int (Ii p1)] ∧ ri_ p1 ∧ w_X1_countOf  Q p1 M
set_option maxHeartbeats 4000000 in
set_option maxRecDepth 100000 in
theorem k_X1_countOf_b4 {l : Launch} {D : va_G} {cy : Nat → ClassId} {ad : Nat → Nat} {Q : Int → MM → Prop} {J : Nat → List (Nat × Value) → List Value → MM → Prop} (hin : jIn ad ksC.length)   (hJ : jOk l D vwCl (tyC cy) cy ad ftC ksC (XtC ad) Om RX1 cX1_countOf 4 1 ({ frames := 1, cells := 0, slots := 0, locals := 21 } : Room) Q J)  : ∀ (x1 x2 x3 : Int) (M : MM), ri_ x1 → ri_ x2 → ri_ x3 → w_X1_countOf_b4  Q  x1 x2 x3 M → J 4 [(0, .ref (ad 274)), (1, .int (Ii x1)), (2, .int (Ii x2)), (3, .int (Ii x3))] [] M := by
  have H9 : ∀ (n : Nat) (x1 x2 x3 : Int) (M : MM), ri_ x1 → ri_ x2 → ri_ x3 → jit (fun _ _ _ _ => False) (wb_X1_countOf_b4  Q ) n x1 x2 x3 M → J 4 [(0, .ref (ad 274)), (1, .int (Ii x1)), (2, .int (Ii x2)), (3, .int (Ii x3))] [] M := by
    intro n
    induction n with
    | zero => intro x1 x2 x3 M gx1 gx2 gx3 hF; exact False.elim hF
    | succ n ih =>
    intro x1 x2 x3 M gx1 gx2 gx3 hF
    have hF : wb_X1_countOf_b4  Q  (jit (fun _ _ _ _ => False) (wb_X1_countOf_b4  Q ) n) x1 x2 x3 M := hF
    unfold wb_X1_countOf_b4 at hF
    refine j_iload_n hJ dX1_countOf_4 rfl 3 rfl ?_
    refine j_aload_n hJ dX1_countOf_5 rfl 0 rfl ?_
    refine j_gi hJ kC_274 fC_4_1 rfl fl_X1_50 dX1_countOf_6 (fun v1 ev1 gv1 => ?_)
    have hF := hF v1 ev1 gv1
    refine j_icmp_ge hJ 35 gx3 gv1 dX1_countOf_9 (by decide) (fun z2 => ?_) (fun z2 => ?_)
    · have hF := hF.1 z2
      refine j_iload_n hJ dX1_countOf_35 rfl 2 rfl ?_
      exact j_iret hJ rfl gx2 dX1_countOf_36 hF
    · have hF := hF.2 z2
      refine j_iload_n hJ dX1_countOf_12 rfl 2 rfl ?_
      refine j_aload_n hJ dX1_countOf_13 rfl 0 rfl ?_
      refine j_gr (e := 275) hJ kC_274 fC_4_3 fl_X1_15 dX1_countOf_14 rfl ?_
      refine j_iload_n hJ dX1_countOf_17 rfl 1 rfl ?_
      refine j_bipush hJ dX1_countOf_18 (by decide) ?_
      refine j_imul hJ dX1_countOf_20 ?_
      have g3 := hF.1; have hF := hF.2
      refine j_iload_n hJ dX1_countOf_21 rfl 3 rfl ?_
      refine j_iadd hJ dX1_countOf_22 ?_
      have g4 := hF.1; have hF := hF.2
      refine j_lald hJ g4 kC_275 hF.1 hF.2.1 dX1_countOf_23 (fun v5 ev5 gv5 => ?_)
      have hF := hF.2.2 v5 ev5 gv5
      refine j_callSi hJ (c_J13_bitCount_95d88_C (l := l) (D := D) (cy := cy) (ad := ad) hin) rfl om_172 ⟨rfl, rfl, Nat.le_of_ble_eq_true rfl, Nat.le_of_ble_eq_true rfl⟩ [.long (Ll v5)] mv_X1_139 hd_J13_bitCount_95d88 rfl (Nat.le_of_ble_eq_true rfl) dX1_countOf_24 ⟨v5, rfl, gv5, hF⟩ (fun r6 M7 gr6 qM7 => ?_)
      have hF := qM7 gr6
      refine j_iadd hJ dX1_countOf_27 ?_
      have g8 := hF.1; have hF := hF.2
      refine j_istore_n (lv' := [(2, .int (Ii (x2 + r6))), (0, .ref (ad 274)), (1, .int (Ii x1)), (3, .int (Ii x3))]) hJ dX1_countOf_28 rfl (by decide) rfl ?_
      refine j_iinc (lv' := [(3, .int (Ii (x3 + 1))), (2, .int (Ii (x2 + r6))), (0, .ref (ad 274)), (1, .int (Ii x1))]) (k := 3) hJ dX1_countOf_29 rfl (by decide) rfl ?_
      have g9 := hF.1; have hF := hF.2
      refine j_goto hJ 4 dX1_countOf_32 (by decide) ?_
      exact j_sub hJ [2, 3, 1, 0] rfl (ih x1 (x2 + r6) (x3 + 1) _ gx1 g8 g9 hF)
  intro x1 x2 x3 M gx1 gx2 gx3 hF
  obtain ⟨n, hF⟩ := hF
  exact H9 n x1 x2 x3 M gx1 gx2 gx3 hF
set_option maxHeartbeats 4000000 in
set_option maxRecDepth 100000 in
theorem c_X1_countOf {l : Launch} {D : va_G} {cy : Nat → ClassId} {ad : Nat → Nat} (hin : jIn ad ksC.length) : jCN l D vwCl (tyC cy) cy ad ftC ksC (XtC ad) yX1_countOf (.code yX1_countOf cX1_countOf 4 (some .int) :: Om) ({ frames := 1, cells := 0, slots := 0, locals := 21 } : Room) 1 (W_X1_countOf ad) := by
  refine jCN_of (y := yX1_countOf) (cc := cX1_countOf) (nL := 4) (rk := 1) (rm := ({ frames := 1, cells := 0, slots := 0, locals := 21 } : Room)) (own := RX1) (tyC_ok cy) hin (XtC_ok ad) Om_good (by decide) rfl ?_
  intro Q av M hF
  obtain ⟨p1, rfl, gp1, hF⟩ := hF
  refine ⟨Nat.le_of_ble_eq_true rfl, fun J hJ => ?_⟩
  show J 0 [(0, .ref (ad 274)), (1, .int (Ii p1))] [] M
  unfold w_X1_countOf at hF
  refine j_iconst hJ dX1_countOf_0 ?_
  refine j_istore_n (lv' := [(2, .int (Ii 0)), (0, .ref (ad 274)), (1, .int (Ii p1))]) hJ dX1_countOf_1 rfl (by decide) rfl ?_
  refine j_iconst hJ dX1_countOf_2 ?_
  refine j_istore_n (lv' := [(3, .int (Ii 0)), (2, .int (Ii 0)), (0, .ref (ad 274)), (1, .int (Ii p1))]) hJ dX1_countOf_3 rfl (by decide) rfl ?_
  exact j_sub hJ [2, 3, 1, 0] rfl (k_X1_countOf_b4 hin  hJ  p1 0 0 _ gp1 rk_0 rk_0 hF)
def W_X1_has (ad : Nat → Nat) (Q : Int → MM → Prop) (av : List Value) (M : MM) : Prop := ∃ (p1 : Int) (p2 : Int) (p3 : Int), av = [.ref (ad 274), .int (Ii p1), .int (Ii p2), .int (Ii p3)] ∧ ri_ p1 ∧ ri_ p2 ∧ ri_ p3 ∧ w_X1_has  Q p1 p2 p3 M
set_option maxHeartbeats 4000000 in
set_option maxRecDepth 100000 in
theorem c_X1_has {l : Launch} {D : va_G} {cy : Nat → ClassId} {ad : Nat → Nat} (hin : jIn ad ksC.length) : jCN l D vwCl (tyC cy) cy ad ftC ksC (XtC ad) yX1_has (.code yX1_has cX1_has 4 (some .boolean) :: Om) ({ frames := 0, cells := 0, slots := 0, locals := 0 } : Room) 3 (W_X1_has ad) := by
  refine jCN_of (y := yX1_has) (cc := cX1_has) (nL := 4) (rk := 3) (rm := ({ frames := 0, cells := 0, slots := 0, locals := 0 } : Room)) (own := RX1) (tyC_ok cy) hin (XtC_ok ad) Om_good (by decide) rfl ?_
  intro Q av M hF
  obtain ⟨p1, p2, p3, rfl, gp1, gp2, gp3, hF⟩ := hF
  refine ⟨Nat.le_of_ble_eq_true rfl, fun J hJ => ?_⟩
  show J 0 [(0, .ref (ad 274)), (1, .int (Ii p1)), (2, .int (Ii p2)), (3, .int (Ii p3))] [] M
  unfold w_X1_has at hF
  refine j_iload_n hJ dX1_has_0 rfl 2 rfl ?_
  refine j_if_lt hJ 48 gp2 dX1_has_1 (by decide) (fun z1 => ?_) (fun z1 => ?_)
  · have hF := hF.1 z1
    refine j_iconst hJ dX1_has_48 ?_
    exact j_zret hJ rfl (by decide) dX1_has_49 hF
  · have hF := hF.2 z1
    refine j_iload_n hJ dX1_has_4 rfl 2 rfl ?_
    refine j_aload_n hJ dX1_has_5 rfl 0 rfl ?_
    refine j_gi hJ kC_274 fC_4_1 rfl fl_X1_50 dX1_has_6 (fun v2 ev2 gv2 => ?_)
    have hF := hF v2 ev2 gv2
    refine j_icmp_ge hJ 48 gp2 gv2 dX1_has_9 (by decide) (fun z3 => ?_) (fun z3 => ?_)
    · have hF := hF.1 z3
      refine j_iconst hJ dX1_has_48 ?_
      exact j_zret hJ rfl (by decide) dX1_has_49 hF
    · have hF := hF.2 z3
      refine j_iload_n hJ dX1_has_12 rfl 3 rfl ?_
      refine j_if_lt hJ 48 gp3 dX1_has_13 (by decide) (fun z4 => ?_) (fun z4 => ?_)
      · have hF := hF.1 z4
        refine j_iconst hJ dX1_has_48 ?_
        exact j_zret hJ rfl (by decide) dX1_has_49 hF
      · have hF := hF.2 z4
        refine j_iload_n hJ dX1_has_16 rfl 3 rfl ?_
        refine j_aload_n hJ dX1_has_17 rfl 0 rfl ?_
        refine j_gi hJ kC_274 fC_4_1 rfl fl_X1_50 dX1_has_18 (fun v5 ev5 gv5 => ?_)
        have hF := hF v5 ev5 gv5
        refine j_icmp_ge hJ 48 gp3 gv5 dX1_has_21 (by decide) (fun z6 => ?_) (fun z6 => ?_)
        · have hF := hF.1 z6
          refine j_iconst hJ dX1_has_48 ?_
          exact j_zret hJ rfl (by decide) dX1_has_49 hF
        · have hF := hF.2 z6
          refine j_aload_n hJ dX1_has_24 rfl 0 rfl ?_
          refine j_gr (e := 275) hJ kC_274 fC_4_3 fl_X1_15 dX1_has_25 rfl ?_
          refine j_iload_n hJ dX1_has_28 rfl 1 rfl ?_
          refine j_bipush hJ dX1_has_29 (by decide) ?_
          refine j_imul hJ dX1_has_31 ?_
          have g7 := hF.1; have hF := hF.2
          refine j_iload_n hJ dX1_has_32 rfl 2 rfl ?_
          refine j_iadd hJ dX1_has_33 ?_
          have g8 := hF.1; have hF := hF.2
          refine j_lald hJ g8 kC_275 hF.1 hF.2.1 dX1_has_34 (fun v9 ev9 gv9 => ?_)
          have hF := hF.2.2 v9 ev9 gv9
          refine j_iload_n hJ dX1_has_35 rfl 3 rfl ?_
          refine j_lshr hJ dX1_has_36 ?_
          refine j_lconst (x := 1) hJ dX1_has_37 rfl ?_
          refine j_land hJ dX1_has_38 ?_
          refine j_lconst (x := 0) hJ dX1_has_39 rfl ?_
          refine j_lcmp_eq hJ 48 (rl_of _) lkm_0 dX1_has_40 dX1_has_41 (by decide) (fun z10 => ?_) (fun z10 => ?_)
          · have hF := hF.1 z10
            refine j_iconst hJ dX1_has_48 ?_
            exact j_zret hJ rfl (by decide) dX1_has_49 hF
          · have hF := hF.2 z10
            refine j_iconst hJ dX1_has_44 ?_
            refine j_goto hJ 49 dX1_has_45 (by decide) ?_
            exact j_zret hJ rfl (by decide) dX1_has_49 hF
def W_X2_isThere (ad : Nat → Nat) (Q : Int → MM → Prop) (av : List Value) (M : MM) : Prop := ∃ (p1 : Int), av = [.ref (ad 26), .int (Ii p1)] ∧ ri_ p1 ∧ w_X2_isThere  Q p1 M
set_option maxHeartbeats 4000000 in
set_option maxRecDepth 100000 in
theorem c_X2_isThere {l : Launch} {D : va_G} {cy : Nat → ClassId} {ad : Nat → Nat} (hin : jIn ad ksC.length) : jCN l D vwCl (tyC cy) cy ad ftC ksC (XtC ad) yX2_isThere (.code yX2_isThere cX2_isThere 2 (some .boolean) :: Om) ({ frames := 0, cells := 0, slots := 0, locals := 0 } : Room) 3 (W_X2_isThere ad) := by
  refine jCN_of (y := yX2_isThere) (cc := cX2_isThere) (nL := 2) (rk := 3) (rm := ({ frames := 0, cells := 0, slots := 0, locals := 0 } : Room)) (own := RX2) (tyC_ok cy) hin (XtC_ok ad) Om_good (by decide) rfl ?_
  intro Q av M hF
  obtain ⟨p1, rfl, gp1, hF⟩ := hF
  refine ⟨Nat.le_of_ble_eq_true rfl, fun J hJ => ?_⟩
  show J 0 [(0, .ref (ad 26)), (1, .int (Ii p1))] [] M
  unfold w_X2_isThere at hF
  refine j_iload_n hJ dX2_isThere_0 rfl 1 rfl ?_
  refine j_if_lt hJ 26 gp1 dX2_isThere_1 (by decide) (fun z1 => ?_) (fun z1 => ?_)
  · have hF := hF.1 z1
    refine j_iconst hJ dX2_isThere_26 ?_
    exact j_zret hJ rfl (by decide) dX2_isThere_27 hF
  · have hF := hF.2 z1
    refine j_iload_n hJ dX2_isThere_4 rfl 1 rfl ?_
    refine j_aload_n hJ dX2_isThere_5 rfl 0 rfl ?_
    refine j_gi hJ kC_26 fC_5_1 rfl fl_X2_47 dX2_isThere_6 (fun v2 ev2 gv2 => ?_)
    have hF := hF v2 ev2 gv2
    refine j_icmp_ge hJ 26 gp1 gv2 dX2_isThere_9 (by decide) (fun z3 => ?_) (fun z3 => ?_)
    · have hF := hF.1 z3
      refine j_iconst hJ dX2_isThere_26 ?_
      exact j_zret hJ rfl (by decide) dX2_isThere_27 hF
    · have hF := hF.2 z3
      refine j_aload_n hJ dX2_isThere_12 rfl 0 rfl ?_
      refine j_gr (e := 27) hJ kC_26 fC_5_4 fl_X2_15 dX2_isThere_13 rfl ?_
      refine j_iload_n hJ dX2_isThere_16 rfl 1 rfl ?_
      refine j_iald hJ gp1 kC_27 hF.1 hF.2.1 dX2_isThere_17 (fun v4 ev4 gv4 => ?_)
      have hF := hF.2.2 v4 ev4 gv4
      refine j_iconst hJ dX2_isThere_18 ?_
      refine j_icmp_eq hJ 26 gv4 rk_m1 dX2_isThere_19 (by decide) (fun z5 => ?_) (fun z5 => ?_)
      · have hF := hF.1 z5
        refine j_iconst hJ dX2_isThere_26 ?_
        exact j_zret hJ rfl (by decide) dX2_isThere_27 hF
      · have hF := hF.2 z5
        refine j_iconst hJ dX2_isThere_22 ?_
        refine j_goto hJ 27 dX2_isThere_23 (by decide) ?_
        exact j_zret hJ rfl (by decide) dX2_isThere_27 hF
def W_X2_slotsOf (ad : Nat → Nat) (Q : Int → MM → Prop) (av : List Value) (M : MM) : Prop := ∃ (p1 : Int), av = [.ref (ad 26), .int (Ii p1)] ∧ ri_ p1 ∧ w_X2_slotsOf  Q p1 M
set_option maxHeartbeats 4000000 in
set_option maxRecDepth 100000 in
theorem c_X2_slotsOf {l : Launch} {D : va_G} {cy : Nat → ClassId} {ad : Nat → Nat} (hin : jIn ad ksC.length) : jCN l D vwCl (tyC cy) cy ad ftC ksC (XtC ad) yX2_slotsOf (.code yX2_slotsOf cX2_slotsOf 2 (some .int) :: Om) ({ frames := 2, cells := 0, slots := 0, locals := 42 } : Room) 1 (W_X2_slotsOf ad) := by
  refine jCN_of (y := yX2_slotsOf) (cc := cX2_slotsOf) (nL := 2) (rk := 1) (rm := ({ frames := 2, cells := 0, slots := 0, locals := 42 } : Room)) (own := RX2) (tyC_ok cy) hin (XtC_ok ad) Om_good (by decide) rfl ?_
  intro Q av M hF
  obtain ⟨p1, rfl, gp1, hF⟩ := hF
  refine ⟨Nat.le_of_ble_eq_true rfl, fun J hJ => ?_⟩
  show J 0 [(0, .ref (ad 26)), (1, .int (Ii p1))] [] M
  unfold w_X2_slotsOf at hF
  refine j_aload_n hJ dX2_slotsOf_0 rfl 0 rfl ?_
  refine j_ga hJ kC_26 fC_5_0 fl_X2_9 dX2_slotsOf_1 ?_
  refine j_aload_n hJ dX2_slotsOf_4 rfl 0 rfl ?_
  refine j_gr (e := 27) hJ kC_26 fC_5_4 fl_X2_15 dX2_slotsOf_5 rfl ?_
  refine j_iload_n hJ dX2_slotsOf_8 rfl 1 rfl ?_
  refine j_iald hJ gp1 kC_27 hF.1 hF.2.1 dX2_slotsOf_9 (fun v1 ev1 gv1 => ?_)
  have hF := hF.2.2 v1 ev1 gv1
  refine j_aload_n hJ dX2_slotsOf_10 rfl 0 rfl ?_
  refine j_gr (e := 28) hJ kC_26 fC_5_5 fl_X2_19 dX2_slotsOf_11 rfl ?_
  refine j_iload_n hJ dX2_slotsOf_14 rfl 1 rfl ?_
  refine j_iald hJ gp1 kC_28 hF.1 hF.2.1 dX2_slotsOf_15 (fun v2 ev2 gv2 => ?_)
  have hF := hF.2.2 v2 ev2 gv2
  refine j_callVi hJ (c_X10_slotsOf (l := l) (D := D) (cy := cy) (ad := ad) hin) rfl om_44 ⟨rfl, rfl, Nat.le_of_ble_eq_true rfl, Nat.le_of_ble_eq_true rfl⟩ [.int (Ii v1), .int (Ii v2)] mv_X2_51 hd_X10_slotsOfv kC_8 rfl rfl rfl (Nat.le_of_ble_eq_true rfl) dX2_slotsOf_16 ⟨v1, v2, rfl, gv1, gv2, hF⟩ (fun r3 M4 gr3 qM4 => ?_)
  have hF := qM4 gr3
  exact j_iret hJ rfl gr3 dX2_slotsOf_19 hF
def W_X2_hasSlot (ad : Nat → Nat) (Q : Int → MM → Prop) (av : List Value) (M : MM) : Prop := ∃ (p1 : Int) (p2 : Int), av = [.ref (ad 26), .int (Ii p1), .int (Ii p2)] ∧ ri_ p1 ∧ ri_ p2 ∧ w_X2_hasSlot  Q p1 p2 M
set_option maxHeartbeats 4000000 in
set_option maxRecDepth 100000 in
theorem c_X2_hasSlot {l : Launch} {D : va_G} {cy : Nat → ClassId} {ad : Nat → Nat} (hin : jIn ad ksC.length) : jCN l D vwCl (tyC cy) cy ad ftC ksC (XtC ad) yX2_hasSlot (.code yX2_hasSlot cX2_hasSlot 3 (some .boolean) :: Om) ({ frames := 3, cells := 0, slots := 0, locals := 63 } : Room) 3 (W_X2_hasSlot ad) := by
  refine jCN_of (y := yX2_hasSlot) (cc := cX2_hasSlot) (nL := 3) (rk := 3) (rm := ({ frames := 3, cells := 0, slots := 0, locals := 63 } : Room)) (own := RX2) (tyC_ok cy) hin (XtC_ok ad) Om_good (by decide) rfl ?_
  intro Q av M hF
  obtain ⟨p1, p2, rfl, gp1, gp2, hF⟩ := hF
  refine ⟨Nat.le_of_ble_eq_true rfl, fun J hJ => ?_⟩
  show J 0 [(0, .ref (ad 26)), (1, .int (Ii p1)), (2, .int (Ii p2))] [] M
  unfold w_X2_hasSlot at hF
  refine j_aload_n hJ dX2_hasSlot_0 rfl 0 rfl ?_
  refine j_iload_n hJ dX2_hasSlot_1 rfl 1 rfl ?_
  refine j_callVz hJ (c_X2_isThere (l := l) (D := D) (cy := cy) (ad := ad) hin) rfl om_177 ⟨rfl, rfl, Nat.le_of_ble_eq_true rfl, Nat.le_of_ble_eq_true rfl⟩ [.int (Ii p1)] mv_X2_55 hd_X2_isTherev kC_26 rfl rfl rfl (Nat.le_of_ble_eq_true rfl) dX2_hasSlot_2 ⟨p1, rfl, gp1, hF⟩ (fun r1 M2 gr1 qM2 => ?_)
  have hF := qM2 gr1
  refine j_if_eq hJ 25 (jz_ri gr1) dX2_hasSlot_5 (by decide) (fun z3 => ?_) (fun z3 => ?_)
  · have hF := hF.1 z3
    refine j_iconst hJ dX2_hasSlot_25 ?_
    exact j_zret hJ rfl (by decide) dX2_hasSlot_26 hF
  · have hF := hF.2 z3
    refine j_iload_n hJ dX2_hasSlot_8 rfl 2 rfl ?_
    refine j_if_lt hJ 25 gp2 dX2_hasSlot_9 (by decide) (fun z4 => ?_) (fun z4 => ?_)
    · have hF := hF.1 z4
      refine j_iconst hJ dX2_hasSlot_25 ?_
      exact j_zret hJ rfl (by decide) dX2_hasSlot_26 hF
    · have hF := hF.2 z4
      refine j_iload_n hJ dX2_hasSlot_12 rfl 2 rfl ?_
      refine j_aload_n hJ dX2_hasSlot_13 rfl 0 rfl ?_
      refine j_iload_n hJ dX2_hasSlot_14 rfl 1 rfl ?_
      refine j_callVi hJ (c_X2_slotsOf (l := l) (D := D) (cy := cy) (ad := ad) hin) rfl om_182 ⟨rfl, rfl, Nat.le_of_ble_eq_true rfl, Nat.le_of_ble_eq_true rfl⟩ [.int (Ii p1)] mv_X2_59 hd_X2_slotsOfv kC_26 rfl rfl rfl (Nat.le_of_ble_eq_true rfl) dX2_hasSlot_15 ⟨p1, rfl, gp1, hF⟩ (fun r5 M6 gr5 qM6 => ?_)
      have hF := qM6 gr5
      refine j_icmp_ge hJ 25 gp2 gr5 dX2_hasSlot_18 (by decide) (fun z7 => ?_) (fun z7 => ?_)
      · have hF := hF.1 z7
        refine j_iconst hJ dX2_hasSlot_25 ?_
        exact j_zret hJ rfl (by decide) dX2_hasSlot_26 hF
      · have hF := hF.2 z7
        refine j_iconst hJ dX2_hasSlot_21 ?_
        refine j_goto hJ 26 dX2_hasSlot_22 (by decide) ?_
        exact j_zret hJ rfl (by decide) dX2_hasSlot_26 hF
def W_X2_hasRoom (ad : Nat → Nat) (Q : Int → MM → Prop) (av : List Value) (M : MM) : Prop := ∃ (p1 : Int) (p2 : Int), av = [.ref (ad 26), .int (Ii p1), .int (Ii p2)] ∧ ri_ p1 ∧ ri_ p2 ∧ w_X2_hasRoom  Q p1 p2 M
set_option maxHeartbeats 4000000 in
set_option maxRecDepth 100000 in
theorem c_X2_hasRoom {l : Launch} {D : va_G} {cy : Nat → ClassId} {ad : Nat → Nat} (hin : jIn ad ksC.length) : jCN l D vwCl (tyC cy) cy ad ftC ksC (XtC ad) yX2_hasRoom (.code yX2_hasRoom cX2_hasRoom 3 (some .boolean) :: Om) ({ frames := 0, cells := 0, slots := 0, locals := 0 } : Room) 3 (W_X2_hasRoom ad) := by
  refine jCN_of (y := yX2_hasRoom) (cc := cX2_hasRoom) (nL := 3) (rk := 3) (rm := ({ frames := 0, cells := 0, slots := 0, locals := 0 } : Room)) (own := RX2) (tyC_ok cy) hin (XtC_ok ad) Om_good (by decide) rfl ?_
  intro Q av M hF
  obtain ⟨p1, p2, rfl, gp1, gp2, hF⟩ := hF
  refine ⟨Nat.le_of_ble_eq_true rfl, fun J hJ => ?_⟩
  show J 0 [(0, .ref (ad 26)), (1, .int (Ii p1)), (2, .int (Ii p2))] [] M
  unfold w_X2_hasRoom at hF
  refine j_aload_n hJ dX2_hasRoom_0 rfl 0 rfl ?_
  refine j_gi hJ kC_26 fC_5_1 rfl fl_X2_47 dX2_hasRoom_1 (fun v1 ev1 gv1 => ?_)
  have hF := hF v1 ev1 gv1
  refine j_iload_n hJ dX2_hasRoom_4 rfl 1 rfl ?_
  refine j_iadd hJ dX2_hasRoom_5 ?_
  have g2 := hF.1; have hF := hF.2
  refine j_sipush hJ dX2_hasRoom_6 (by decide) ?_
  refine j_icmp_gt hJ 28 g2 rk_400 dX2_hasRoom_9 (by decide) (fun z3 => ?_) (fun z3 => ?_)
  · have hF := hF.1 z3
    refine j_iconst hJ dX2_hasRoom_28 ?_
    exact j_zret hJ rfl (by decide) dX2_hasRoom_29 hF
  · have hF := hF.2 z3
    refine j_aload_n hJ dX2_hasRoom_12 rfl 0 rfl ?_
    refine j_gi hJ kC_26 fC_5_3 rfl fl_X2_62 dX2_hasRoom_13 (fun v4 ev4 gv4 => ?_)
    have hF := hF v4 ev4 gv4
    refine j_iload_n hJ dX2_hasRoom_16 rfl 2 rfl ?_
    refine j_iadd hJ dX2_hasRoom_17 ?_
    have g5 := hF.1; have hF := hF.2
    refine j_sipush hJ dX2_hasRoom_18 (by decide) ?_
    refine j_icmp_gt hJ 28 g5 rk_4000 dX2_hasRoom_21 (by decide) (fun z6 => ?_) (fun z6 => ?_)
    · have hF := hF.1 z6
      refine j_iconst hJ dX2_hasRoom_28 ?_
      exact j_zret hJ rfl (by decide) dX2_hasRoom_29 hF
    · have hF := hF.2 z6
      refine j_iconst hJ dX2_hasRoom_24 ?_
      refine j_goto hJ 29 dX2_hasRoom_25 (by decide) ?_
      exact j_zret hJ rfl (by decide) dX2_hasRoom_29 hF
def W_X2_countOf (ad : Nat → Nat) (Q : Int → MM → Prop) (av : List Value) (M : MM) : Prop := ∃ (p1 : Int), av = [.ref (ad 26), .int (Ii p1)] ∧ ri_ p1 ∧ w_X2_countOf  Q p1 M
set_option maxHeartbeats 4000000 in
set_option maxRecDepth 100000 in
theorem k_X2_countOf_b25 {l : Launch} {D : va_G} {cy : Nat → ClassId} {ad : Nat → Nat} {Q : Int → MM → Prop} {J : Nat → List (Nat × Value) → List Value → MM → Prop} (hin : jIn ad ksC.length)   (hJ : jOk l D vwCl (tyC cy) cy ad ftC ksC (XtC ad) Om RX2 cX2_countOf 4 1 ({ frames := 0, cells := 0, slots := 0, locals := 0 } : Room) Q J) {K4 : Int → Int → Int → MM → Prop} (hK4 : ∀ (x1 x2 x3 : Int) (M : MM), ri_ x1 → ri_ x2 → ri_ x3 → K4 x1 x2 x3 M → J 4 [(0, .ref (ad 26)), (1, .int (Ii x1)), (2, .int (Ii x2)), (3, .int (Ii x3))] [] M) : ∀ (x1 x2 x3 : Int) (M : MM), ri_ x1 → ri_ x2 → ri_ x3 → w_X2_countOf_b25  Q K4 x1 x2 x3 M → J 25 [(0, .ref (ad 26)), (1, .int (Ii x1)), (2, .int (Ii x2)), (3, .int (Ii x3))] [] M := by
  intro x1 x2 x3 M gx1 gx2 gx3 hF
  unfold w_X2_countOf_b25 at hF
  refine j_iinc (lv' := [(3, .int (Ii (x3 + 1))), (0, .ref (ad 26)), (1, .int (Ii x1)), (2, .int (Ii x2))]) (k := 3) hJ dX2_countOf_25 rfl (by decide) rfl ?_
  have g1 := hF.1; have hF := hF.2
  refine j_goto hJ 4 dX2_countOf_28 (by decide) ?_
  exact j_sub hJ [1, 2, 3, 0] rfl (hK4 x1 x2 (x3 + 1) _ gx1 gx2 g1 hF)
set_option maxHeartbeats 4000000 in
set_option maxRecDepth 100000 in
theorem k_X2_countOf_b4 {l : Launch} {D : va_G} {cy : Nat → ClassId} {ad : Nat → Nat} {Q : Int → MM → Prop} {J : Nat → List (Nat × Value) → List Value → MM → Prop} (hin : jIn ad ksC.length)   (hJ : jOk l D vwCl (tyC cy) cy ad ftC ksC (XtC ad) Om RX2 cX2_countOf 4 1 ({ frames := 0, cells := 0, slots := 0, locals := 0 } : Room) Q J)  : ∀ (x1 x2 x3 : Int) (M : MM), ri_ x1 → ri_ x2 → ri_ x3 → w_X2_countOf_b4  Q  x1 x2 x3 M → J 4 [(0, .ref (ad 26)), (1, .int (Ii x1)), (2, .int (Ii x2)), (3, .int (Ii x3))] [] M := by
  have H9 : ∀ (n : Nat) (x1 x2 x3 : Int) (M : MM), ri_ x1 → ri_ x2 → ri_ x3 → jit (fun _ _ _ _ => False) (wb_X2_countOf_b4  Q ) n x1 x2 x3 M → J 4 [(0, .ref (ad 26)), (1, .int (Ii x1)), (2, .int (Ii x2)), (3, .int (Ii x3))] [] M := by
    intro n
    induction n with
    | zero => intro x1 x2 x3 M gx1 gx2 gx3 hF; exact False.elim hF
    | succ n ih =>
    intro x1 x2 x3 M gx1 gx2 gx3 hF
    have hF : wb_X2_countOf_b4  Q  (jit (fun _ _ _ _ => False) (wb_X2_countOf_b4  Q ) n) x1 x2 x3 M := hF
    unfold wb_X2_countOf_b4 at hF
    refine j_iload_n hJ dX2_countOf_4 rfl 3 rfl ?_
    refine j_aload_n hJ dX2_countOf_5 rfl 0 rfl ?_
    refine j_gi hJ kC_26 fC_5_1 rfl fl_X2_47 dX2_countOf_6 (fun v1 ev1 gv1 => ?_)
    have hF := hF v1 ev1 gv1
    refine j_icmp_ge hJ 31 gx3 gv1 dX2_countOf_9 (by decide) (fun z2 => ?_) (fun z2 => ?_)
    · have hF := hF.1 z2
      refine j_iload_n hJ dX2_countOf_31 rfl 2 rfl ?_
      exact j_iret hJ rfl gx2 dX2_countOf_32 hF
    · have hF := hF.2 z2
      refine j_aload_n hJ dX2_countOf_12 rfl 0 rfl ?_
      refine j_gr (e := 27) hJ kC_26 fC_5_4 fl_X2_15 dX2_countOf_13 rfl ?_
      refine j_iload_n hJ dX2_countOf_16 rfl 3 rfl ?_
      refine j_iald hJ gx3 kC_27 hF.1 hF.2.1 dX2_countOf_17 (fun v3 ev3 gv3 => ?_)
      have hF := hF.2.2 v3 ev3 gv3
      refine j_iload_n hJ dX2_countOf_18 rfl 1 rfl ?_
      refine j_icmp_ne hJ 25 gv3 gx1 dX2_countOf_19 (by decide) (fun z4 => ?_) (fun z4 => ?_)
      · have hF := hF.1 z4
        exact j_sub hJ [0, 1, 2, 3] rfl (k_X2_countOf_b25 hin  hJ ih x1 x2 x3 _ gx1 gx2 gx3 hF)
      · have hF := hF.2 z4
        refine j_iinc (lv' := [(2, .int (Ii (x2 + 1))), (0, .ref (ad 26)), (1, .int (Ii x1)), (3, .int (Ii x3))]) (k := 2) hJ dX2_countOf_22 rfl (by decide) rfl ?_
        have g5 := hF.1; have hF := hF.2
        exact j_sub hJ [1, 2, 0, 3] rfl (k_X2_countOf_b25 hin  hJ ih x1 (x2 + 1) x3 _ gx1 g5 gx3 hF)
  intro x1 x2 x3 M gx1 gx2 gx3 hF
  obtain ⟨n, hF⟩ := hF
  exact H9 n x1 x2 x3 M gx1 gx2 gx3 hF
set_option maxHeartbeats 4000000 in
set_option maxRecDepth 100000 in
theorem c_X2_countOf {l : Launch} {D : va_G} {cy : Nat → ClassId} {ad : Nat → Nat} (hin : jIn ad ksC.length) : jCN l D vwCl (tyC cy) cy ad ftC ksC (XtC ad) yX2_countOf (.code yX2_countOf cX2_countOf 4 (some .int) :: Om) ({ frames := 0, cells := 0, slots := 0, locals := 0 } : Room) 1 (W_X2_countOf ad) := by
  refine jCN_of (y := yX2_countOf) (cc := cX2_countOf) (nL := 4) (rk := 1) (rm := ({ frames := 0, cells := 0, slots := 0, locals := 0 } : Room)) (own := RX2) (tyC_ok cy) hin (XtC_ok ad) Om_good (by decide) rfl ?_
  intro Q av M hF
  obtain ⟨p1, rfl, gp1, hF⟩ := hF
  refine ⟨Nat.le_of_ble_eq_true rfl, fun J hJ => ?_⟩
  show J 0 [(0, .ref (ad 26)), (1, .int (Ii p1))] [] M
  unfold w_X2_countOf at hF
  refine j_iconst hJ dX2_countOf_0 ?_
  refine j_istore_n (lv' := [(2, .int (Ii 0)), (0, .ref (ad 26)), (1, .int (Ii p1))]) hJ dX2_countOf_1 rfl (by decide) rfl ?_
  refine j_iconst hJ dX2_countOf_2 ?_
  refine j_istore_n (lv' := [(3, .int (Ii 0)), (2, .int (Ii 0)), (0, .ref (ad 26)), (1, .int (Ii p1))]) hJ dX2_countOf_3 rfl (by decide) rfl ?_
  exact j_sub hJ [2, 3, 1, 0] rfl (k_X2_countOf_b4 hin  hJ  p1 0 0 _ gp1 rk_0 rk_0 hF)
def W_X2_isValue (ad : Nat → Nat) (Q : Int → MM → Prop) (av : List Value) (M : MM) : Prop := ∃ (p1 : Int) (p2 : Int) (p3 : Int), av = [.ref (ad 26), .int (Ii p1), .int (Ii p2), .long (Ll p3)] ∧ ri_ p1 ∧ ri_ p2 ∧ rl_ p3 ∧ w_X2_isValue  Q p1 p2 p3 M
set_option maxHeartbeats 4000000 in
set_option maxRecDepth 100000 in
theorem c_X2_isValue {l : Launch} {D : va_G} {cy : Nat → ClassId} {ad : Nat → Nat} (hin : jIn ad ksC.length) : jCN l D vwCl (tyC cy) cy ad ftC ksC (XtC ad) yX2_isValue (.code yX2_isValue cX2_isValue 5 (some .boolean) :: Om) ({ frames := 2, cells := 0, slots := 0, locals := 46 } : Room) 3 (W_X2_isValue ad) := by
  refine jCN_of (y := yX2_isValue) (cc := cX2_isValue) (nL := 5) (rk := 3) (rm := ({ frames := 2, cells := 0, slots := 0, locals := 46 } : Room)) (own := RX2) (tyC_ok cy) hin (XtC_ok ad) Om_good (by decide) rfl ?_
  intro Q av M hF
  obtain ⟨p1, p2, p3, rfl, gp1, gp2, gp3, hF⟩ := hF
  refine ⟨Nat.le_of_ble_eq_true rfl, fun J hJ => ?_⟩
  show J 0 [(0, .ref (ad 26)), (1, .int (Ii p1)), (2, .int (Ii p2)), (3, .long (Ll p3))] [] M
  unfold w_X2_isValue at hF
  refine j_iload_n hJ dX2_isValue_0 rfl 1 rfl ?_
  refine j_iconst hJ dX2_isValue_1 ?_
  refine j_icmp_eq hJ 11 gp1 rk_5 dX2_isValue_2 (by decide) (fun z1 => ?_) (fun z1 => ?_)
  · have hF := hF.1 z1
    refine j_lload_n hJ dX2_isValue_11 rfl 3 rfl ?_
    refine j_ldc2 hJ (-1) om_186 (by decide) dX2_isValue_12 ?_
    refine j_lcmp_ne hJ 21 gp3 lk_m1 dX2_isValue_15 dX2_isValue_16 (by decide) (fun z2 => ?_) (fun z2 => ?_)
    · have hF := hF.1 z2
      refine j_lload_n hJ dX2_isValue_21 rfl 3 rfl ?_
      refine j_lconst (x := 0) hJ dX2_isValue_22 rfl ?_
      refine j_lcmp_lt hJ 68 gp3 lkm_0 dX2_isValue_23 dX2_isValue_24 (by decide) (fun z3 => ?_) (fun z3 => ?_)
      · have hF := hF.1 z3
        refine j_iconst hJ dX2_isValue_68 ?_
        exact j_zret hJ rfl (by decide) dX2_isValue_69 hF
      · have hF := hF.2 z3
        refine j_lload_n hJ dX2_isValue_27 rfl 3 rfl ?_
        refine j_aload_n hJ dX2_isValue_28 rfl 0 rfl ?_
        refine j_gi hJ kC_26 fC_5_1 rfl fl_X2_47 dX2_isValue_29 (fun v4 ev4 gv4 => ?_)
        have hF := hF v4 ev4 gv4
        refine j_i2l hJ gv4 dX2_isValue_32 ?_
        refine j_lcmp_ge hJ 68 gp3 (rl_ri gv4) dX2_isValue_33 dX2_isValue_34 (by decide) (fun z5 => ?_) (fun z5 => ?_)
        · have hF := hF.1 z5
          refine j_iconst hJ dX2_isValue_68 ?_
          exact j_zret hJ rfl (by decide) dX2_isValue_69 hF
        · have hF := hF.2 z5
          refine j_aload_n hJ dX2_isValue_37 rfl 0 rfl ?_
          refine j_lload_n hJ dX2_isValue_38 rfl 3 rfl ?_
          refine j_l2i hJ dX2_isValue_39 ?_
          have g6 := hF.1; have hF := hF.2
          refine j_callVz hJ (c_X2_isThere (l := l) (D := D) (cy := cy) (ad := ad) hin) rfl om_177 ⟨rfl, rfl, Nat.le_of_ble_eq_true rfl, Nat.le_of_ble_eq_true rfl⟩ [.int (Ii p3)] mv_X2_55 hd_X2_isTherev kC_26 rfl rfl rfl (Nat.le_of_ble_eq_true rfl) dX2_isValue_40 ⟨p3, rfl, g6, hF⟩ (fun r7 M8 gr7 qM8 => ?_)
          have hF := qM8 gr7
          refine j_if_eq hJ 68 (jz_ri gr7) dX2_isValue_43 (by decide) (fun z9 => ?_) (fun z9 => ?_)
          · have hF := hF.1 z9
            refine j_iconst hJ dX2_isValue_68 ?_
            exact j_zret hJ rfl (by decide) dX2_isValue_69 hF
          · have hF := hF.2 z9
            refine j_aload_n hJ dX2_isValue_46 rfl 0 rfl ?_
            refine j_ga hJ kC_26 fC_5_0 fl_X2_9 dX2_isValue_47 ?_
            refine j_aload_n hJ dX2_isValue_50 rfl 0 rfl ?_
            refine j_gr (e := 27) hJ kC_26 fC_5_4 fl_X2_15 dX2_isValue_51 rfl ?_
            refine j_lload_n hJ dX2_isValue_54 rfl 3 rfl ?_
            refine j_l2i hJ dX2_isValue_55 ?_
            have g10 := hF.1; have hF := hF.2
            refine j_iald hJ g10 kC_27 hF.1 hF.2.1 dX2_isValue_56 (fun v11 ev11 gv11 => ?_)
            have hF := hF.2.2 v11 ev11 gv11
            refine j_iload_n hJ dX2_isValue_57 rfl 2 rfl ?_
            refine j_callVz hJ (c_X10_fits (l := l) (D := D) (cy := cy) (ad := ad) hin) rfl om_88 ⟨rfl, rfl, Nat.le_of_ble_eq_true rfl, Nat.le_of_ble_eq_true rfl⟩ [.int (Ii v11), .int (Ii p2)] mv_X2_71 hd_X10_fitsv kC_8 rfl rfl rfl (Nat.le_of_ble_eq_true rfl) dX2_isValue_58 ⟨v11, p2, rfl, gv11, gp2, hF⟩ (fun r12 M13 gr12 qM13 => ?_)
            have hF := qM13 gr12
            refine j_if_eq hJ 68 (jz_ri gr12) dX2_isValue_61 (by decide) (fun z14 => ?_) (fun z14 => ?_)
            · have hF := hF.1 z14
              refine j_iconst hJ dX2_isValue_68 ?_
              exact j_zret hJ rfl (by decide) dX2_isValue_69 hF
            · have hF := hF.2 z14
              refine j_iconst hJ dX2_isValue_64 ?_
              refine j_goto hJ 69 dX2_isValue_65 (by decide) ?_
              exact j_zret hJ rfl (by decide) dX2_isValue_69 hF
    · have hF := hF.2 z2
      refine j_iconst hJ dX2_isValue_19 ?_
      exact j_zret hJ rfl (by decide) dX2_isValue_20 hF
  · have hF := hF.2 z1
    refine j_iload_n hJ dX2_isValue_5 rfl 1 rfl ?_
    refine j_lload_n hJ dX2_isValue_6 rfl 3 rfl ?_
    refine j_callSz hJ (c_X10_isNumber (l := l) (D := D) (cy := cy) (ad := ad) hin) rfl om_69 ⟨rfl, rfl, Nat.le_of_ble_eq_true rfl, Nat.le_of_ble_eq_true rfl⟩ [.int (Ii p1), .long (Ll p3)] mv_X2_65 hd_X10_isNumber rfl (Nat.le_of_ble_eq_true rfl) dX2_isValue_7 ⟨p1, p3, rfl, gp1, gp3, hF⟩ (fun r15 M16 gr15 qM16 => ?_)
    have hF := qM16 gr15
    exact j_zret hJ rfl gr15 dX2_isValue_10 hF
def W_X10_use (ad : Nat → Nat) (Q : Int → MM → Prop) (av : List Value) (M : MM) : Prop := ∃ (p1 : Int), av = [.ref (ad 8), .int (Ii p1)] ∧ ri_ p1 ∧ w_X10_use  Q p1 M
set_option maxHeartbeats 4000000 in
set_option maxRecDepth 100000 in
theorem c_X10_use {l : Launch} {D : va_G} {cy : Nat → ClassId} {ad : Nat → Nat} (hin : jIn ad ksC.length) : jCN l D vwCl (tyC cy) cy ad ftC ksC (XtC ad) yX10_use (.code yX10_use cX10_use 2 none :: Om) ({ frames := 1, cells := 0, slots := 0, locals := 21 } : Room) 0 (W_X10_use ad) := by
  refine jCN_of (y := yX10_use) (cc := cX10_use) (nL := 2) (rk := 0) (rm := ({ frames := 1, cells := 0, slots := 0, locals := 21 } : Room)) (own := RX10) (tyC_ok cy) hin (XtC_ok ad) Om_good (by decide) rfl ?_
  intro Q av M hF
  obtain ⟨p1, rfl, gp1, hF⟩ := hF
  refine ⟨Nat.le_of_ble_eq_true rfl, fun J hJ => ?_⟩
  show J 0 [(0, .ref (ad 8)), (1, .int (Ii p1))] [] M
  unfold w_X10_use at hF
  refine j_aload_n hJ dX10_use_0 rfl 0 rfl ?_
  refine j_iload_n hJ dX10_use_1 rfl 1 rfl ?_
  refine j_callVz hJ (c_X10_isClass (l := l) (D := D) (cy := cy) (ad := ad) hin) rfl om_52 ⟨rfl, rfl, Nat.le_of_ble_eq_true rfl, Nat.le_of_ble_eq_true rfl⟩ [.int (Ii p1)] mv_X10_69 hd_X10_isClassv kC_8 rfl rfl rfl (Nat.le_of_ble_eq_true rfl) dX10_use_2 ⟨p1, rfl, gp1, hF⟩ (fun r1 M2 gr1 qM2 => ?_)
  have hF := qM2 gr1
  refine j_if_eq hJ 15 (jz_ri gr1) dX10_use_5 (by decide) (fun z3 => ?_) (fun z3 => ?_)
  · have hF := hF.1 z3
    exact j_vret hJ rfl dX10_use_15 hF
  · have hF := hF.2 z3
    refine j_aload_n hJ dX10_use_8 rfl 0 rfl ?_
    refine j_gr (e := 12) hJ kC_8 fC_13_4 fl_X10_22 dX10_use_9 rfl ?_
    refine j_iload_n hJ dX10_use_12 rfl 1 rfl ?_
    refine j_iconst hJ dX10_use_13 ?_
    refine j_zast hJ gp1 (by decide) kC_12 hF.1 hF.2.1 dX10_use_14 (fun M4 eM4 => ?_)
    have hF := hF.2.2 M4 eM4
    exact j_vret hJ rfl dX10_use_15 hF
def W_X10_firstValue (ad : Nat → Nat) (Q : Int → MM → Prop) (av : List Value) (M : MM) : Prop := ∃ (p1 : Int), av = [.int (Ii p1)] ∧ ri_ p1 ∧ w_X10_firstValue  Q p1 M
set_option maxHeartbeats 4000000 in
set_option maxRecDepth 100000 in
theorem c_X10_firstValue {l : Launch} {D : va_G} {cy : Nat → ClassId} {ad : Nat → Nat} (hin : jIn ad ksC.length) : jCN l D vwCl (tyC cy) cy ad ftC ksC (XtC ad) yX10_firstValue (.code yX10_firstValue cX10_firstValue 1 (some .long) :: Om) ({ frames := 0, cells := 0, slots := 0, locals := 0 } : Room) 2 (W_X10_firstValue ad) := by
  refine jCN_of (y := yX10_firstValue) (cc := cX10_firstValue) (nL := 1) (rk := 2) (rm := ({ frames := 0, cells := 0, slots := 0, locals := 0 } : Room)) (own := RX10) (tyC_ok cy) hin (XtC_ok ad) Om_good (by decide) rfl ?_
  intro Q av M hF
  obtain ⟨p1, rfl, gp1, hF⟩ := hF
  refine ⟨Nat.le_of_ble_eq_true rfl, fun J hJ => ?_⟩
  show J 0 [(0, .int (Ii p1))] [] M
  unfold w_X10_firstValue at hF
  refine j_iload_n hJ dX10_firstValue_0 rfl 0 rfl ?_
  refine j_iconst hJ dX10_firstValue_1 ?_
  refine j_icmp_ne hJ 11 gp1 rk_5 dX10_firstValue_2 (by decide) (fun z1 => ?_) (fun z1 => ?_)
  · have hF := hF.1 z1
    refine j_lconst (x := 0) hJ dX10_firstValue_11 rfl ?_
    exact j_lret hJ rfl lkm_0 dX10_firstValue_12 hF
  · have hF := hF.2 z1
    refine j_ldc2 hJ (-1) om_194 (by decide) dX10_firstValue_5 ?_
    refine j_goto hJ 12 dX10_firstValue_8 (by decide) ?_
    exact j_lret hJ rfl lk_m1 dX10_firstValue_12 hF
def W_X2_create (ad : Nat → Nat) (Q : Int → MM → Prop) (av : List Value) (M : MM) : Prop := ∃ (p1 : Int) (p2 : Int), av = [.ref (ad 26), .int (Ii p1), .int (Ii p2)] ∧ ri_ p1 ∧ ri_ p2 ∧ w_X2_create  Q p1 p2 M
set_option maxHeartbeats 4000000 in
set_option maxRecDepth 100000 in
theorem k_X2_create_b109 {l : Launch} {D : va_G} {cy : Nat → ClassId} {ad : Nat → Nat} {Q : Int → MM → Prop} {J : Nat → List (Nat × Value) → List Value → MM → Prop} (hin : jIn ad ksC.length)   (hJ : jOk l D vwCl (tyC cy) cy ad ftC ksC (XtC ad) Om RX2 cX2_create 7 1 ({ frames := 2, cells := 0, slots := 0, locals := 42 } : Room) Q J) {K71 : Int → Int → Int → Int → MM → Prop} (hK71 : ∀ (x1 x3 x4 x5 : Int) (M : MM), ri_ x1 → ri_ x3 → ri_ x4 → ri_ x5 → K71 x1 x3 x4 x5 M → J 71 [(0, .ref (ad 26)), (1, .int (Ii x1)), (3, .int (Ii x3)), (4, .int (Ii x4)), (5, .int (Ii x5))] [] M) : ∀ (x1 x3 x4 x5 x6 s0 s1 : Int) (M : MM), ri_ x1 → ri_ x3 → ri_ x4 → ri_ x5 → ri_ x6 → ri_ s0 → ri_ s1 → w_X2_create_b109  Q K71 x1 x3 x4 x5 x6 s0 s1 M → J 109 [(0, .ref (ad 26)), (1, .int (Ii x1)), (3, .int (Ii x3)), (4, .int (Ii x4)), (5, .int (Ii x5)), (6, .int (Ii x6))] [.int (Ii s0), .int (Ii s1), .ref (ad 31)] M := by
  intro x1 x3 x4 x5 x6 s0 s1 M gx1 gx3 gx4 gx5 gx6 gs0 gs1 hF
  unfold w_X2_create_b109 at hF
  refine j_zast hJ gs1 hF.2.2.1 kC_31 hF.1 hF.2.1 dX2_create_109 (fun M1 eM1 => ?_)
  have hF := hF.2.2.2 M1 eM1
  refine j_aload_n hJ dX2_create_110 rfl 0 rfl ?_
  refine j_gr (e := 30) hJ kC_26 fC_5_7 fl_X2_25 dX2_create_111 rfl ?_
  refine j_aload_n hJ dX2_create_114 rfl 0 rfl ?_
  refine j_gi hJ kC_26 fC_5_3 rfl fl_X2_62 dX2_create_115 (fun v2 ev2 gv2 => ?_)
  have hF := hF v2 ev2 gv2
  refine j_iload hJ dX2_create_118 5 rfl ?_
  refine j_callSl hJ (c_X10_firstValue (l := l) (D := D) (cy := cy) (ad := ad) hin) rfl om_195 ⟨rfl, rfl, Nat.le_of_ble_eq_true rfl, Nat.le_of_ble_eq_true rfl⟩ [.int (Ii x6)] mv_X2_85 hd_X10_firstValue rfl (Nat.le_of_ble_eq_true rfl) dX2_create_120 ⟨x6, rfl, gx6, hF⟩ (fun r3 M4 gr3 qM4 => ?_)
  have hF := qM4 gr3
  refine j_last hJ gv2 gr3 kC_30 hF.1 hF.2.1 dX2_create_123 (fun M5 eM5 => ?_)
  have hF := hF.2.2 M5 eM5
  refine j_aload_n hJ dX2_create_124 rfl 0 rfl ?_
  refine j_dup hJ dX2_create_125 rfl ?_
  refine j_gi hJ kC_26 fC_5_3 rfl fl_X2_62 dX2_create_126 (fun v6 ev6 gv6 => ?_)
  have hF := hF v6 ev6 gv6
  refine j_iconst hJ dX2_create_129 ?_
  refine j_iadd hJ dX2_create_130 ?_
  have g7 := hF.1; have hF := hF.2
  refine j_pi hJ g7 kC_26 fC_5_3 rfl fp_X2_62 dX2_create_131 (fun M8 eM8 => ?_)
  have hF := hF M8 eM8
  refine j_iinc (lv' := [(5, .int (Ii (x5 + 1))), (0, .ref (ad 26)), (1, .int (Ii x1)), (3, .int (Ii x3)), (4, .int (Ii x4)), (6, .int (Ii x6))]) (k := 4) hJ dX2_create_134 rfl (by decide) rfl ?_
  have g9 := hF.1; have hF := hF.2
  refine j_goto hJ 71 dX2_create_137 (by decide) ?_
  exact j_sub hJ [1, 2, 3, 4, 0] rfl (hK71 x1 x3 x4 (x5 + 1) _ gx1 gx3 gx4 g9 hF)
set_option maxHeartbeats 4000000 in
set_option maxRecDepth 100000 in
theorem k_X2_create_b71 {l : Launch} {D : va_G} {cy : Nat → ClassId} {ad : Nat → Nat} {Q : Int → MM → Prop} {J : Nat → List (Nat × Value) → List Value → MM → Prop} (hin : jIn ad ksC.length)   (hJ : jOk l D vwCl (tyC cy) cy ad ftC ksC (XtC ad) Om RX2 cX2_create 7 1 ({ frames := 2, cells := 0, slots := 0, locals := 42 } : Room) Q J)  : ∀ (x1 x3 x4 x5 : Int) (M : MM), ri_ x1 → ri_ x3 → ri_ x4 → ri_ x5 → w_X2_create_b71  Q  x1 x3 x4 x5 M → J 71 [(0, .ref (ad 26)), (1, .int (Ii x1)), (3, .int (Ii x3)), (4, .int (Ii x4)), (5, .int (Ii x5))] [] M := by
  have H9 : ∀ (n : Nat) (x1 x3 x4 x5 : Int) (M : MM), ri_ x1 → ri_ x3 → ri_ x4 → ri_ x5 → jit (fun _ _ _ _ _ => False) (wb_X2_create_b71  Q ) n x1 x3 x4 x5 M → J 71 [(0, .ref (ad 26)), (1, .int (Ii x1)), (3, .int (Ii x3)), (4, .int (Ii x4)), (5, .int (Ii x5))] [] M := by
    intro n
    induction n with
    | zero => intro x1 x3 x4 x5 M gx1 gx3 gx4 gx5 hF; exact False.elim hF
    | succ n ih =>
    intro x1 x3 x4 x5 M gx1 gx3 gx4 gx5 hF
    have hF : wb_X2_create_b71  Q  (jit (fun _ _ _ _ _ => False) (wb_X2_create_b71  Q ) n) x1 x3 x4 x5 M := hF
    unfold wb_X2_create_b71 at hF
    refine j_iload hJ dX2_create_71 4 rfl ?_
    refine j_iload hJ dX2_create_73 3 rfl ?_
    refine j_icmp_ge hJ 140 gx5 gx4 dX2_create_75 (by decide) (fun z1 => ?_) (fun z1 => ?_)
    · have hF := hF.1 z1
      refine j_iload_n hJ dX2_create_140 rfl 2 rfl ?_
      exact j_iret hJ rfl gx3 dX2_create_141 hF
    · have hF := hF.2 z1
      refine j_aload_n hJ dX2_create_78 rfl 0 rfl ?_
      refine j_ga hJ kC_26 fC_5_0 fl_X2_9 dX2_create_79 ?_
      refine j_iload_n hJ dX2_create_82 rfl 1 rfl ?_
      refine j_iload hJ dX2_create_83 4 rfl ?_
      refine j_callVi hJ (c_X10_kindAt (l := l) (D := D) (cy := cy) (ad := ad) hin) rfl om_64 ⟨rfl, rfl, Nat.le_of_ble_eq_true rfl, Nat.le_of_ble_eq_true rfl⟩ [.int (Ii x1), .int (Ii x5)] mv_X2_82 hd_X10_kindAtv kC_8 rfl rfl rfl (Nat.le_of_ble_eq_true rfl) dX2_create_85 ⟨x1, x5, rfl, gx1, gx5, hF⟩ (fun r2 M3 gr2 qM3 => ?_)
      have hF := qM3 gr2
      refine j_istore (lv' := [(6, .int (Ii r2)), (0, .ref (ad 26)), (1, .int (Ii x1)), (3, .int (Ii x3)), (4, .int (Ii x4)), (5, .int (Ii x5))]) hJ dX2_create_88 (by decide) rfl ?_
      refine j_aload_n hJ dX2_create_90 rfl 1 rfl ?_
      refine j_gr (e := 31) hJ kC_26 fC_5_8 fl_X2_29 dX2_create_91 rfl ?_
      refine j_aload_n hJ dX2_create_94 rfl 1 rfl ?_
      refine j_gi hJ kC_26 fC_5_3 rfl fl_X2_62 dX2_create_95 (fun v4 ev4 gv4 => ?_)
      have hF := hF v4 ev4 gv4
      refine j_iload hJ dX2_create_98 0 rfl ?_
      refine j_iconst hJ dX2_create_100 ?_
      refine j_icmp_ne hJ 108 gr2 rk_5 dX2_create_101 (by decide) (fun z5 => ?_) (fun z5 => ?_)
      · have hF := hF.1 z5
        refine j_iconst hJ dX2_create_108 ?_
        exact j_sub hJ [1, 2, 3, 4, 5, 0] rfl (k_X2_create_b109 hin  hJ ih x1 x3 x4 x5 r2 0 v4 _ gx1 gx3 gx4 gx5 gr2 rk_0 gv4 hF)
      · have hF := hF.2 z5
        refine j_iconst hJ dX2_create_104 ?_
        refine j_goto hJ 109 dX2_create_105 (by decide) ?_
        exact j_sub hJ [1, 2, 3, 4, 5, 0] rfl (k_X2_create_b109 hin  hJ ih x1 x3 x4 x5 r2 1 v4 _ gx1 gx3 gx4 gx5 gr2 rk_1 gv4 hF)
  intro x1 x3 x4 x5 M gx1 gx3 gx4 gx5 hF
  obtain ⟨n, hF⟩ := hF
  exact H9 n x1 x3 x4 x5 M gx1 gx3 gx4 gx5 hF
set_option maxHeartbeats 4000000 in
set_option maxRecDepth 100000 in
theorem c_X2_create {l : Launch} {D : va_G} {cy : Nat → ClassId} {ad : Nat → Nat} (hin : jIn ad ksC.length) : jCN l D vwCl (tyC cy) cy ad ftC ksC (XtC ad) yX2_create (.code yX2_create cX2_create 7 (some .int) :: Om) ({ frames := 2, cells := 0, slots := 0, locals := 42 } : Room) 1 (W_X2_create ad) := by
  refine jCN_of (y := yX2_create) (cc := cX2_create) (nL := 7) (rk := 1) (rm := ({ frames := 2, cells := 0, slots := 0, locals := 42 } : Room)) (own := RX2) (tyC_ok cy) hin (XtC_ok ad) Om_good (by decide) rfl ?_
  intro Q av M hF
  obtain ⟨p1, p2, rfl, gp1, gp2, hF⟩ := hF
  refine ⟨Nat.le_of_ble_eq_true rfl, fun J hJ => ?_⟩
  show J 0 [(0, .ref (ad 26)), (1, .int (Ii p1)), (2, .int (Ii p2))] [] M
  unfold w_X2_create at hF
  refine j_aload_n hJ dX2_create_0 rfl 0 rfl ?_
  refine j_gi hJ kC_26 fC_5_1 rfl fl_X2_47 dX2_create_1 (fun v1 ev1 gv1 => ?_)
  have hF := hF v1 ev1 gv1
  refine j_istore_n (lv' := [(3, .int (Ii v1)), (0, .ref (ad 26)), (1, .int (Ii p1)), (2, .int (Ii p2))]) hJ dX2_create_4 rfl (by decide) rfl ?_
  refine j_aload_n hJ dX2_create_5 rfl 1 rfl ?_
  refine j_dup hJ dX2_create_6 rfl ?_
  refine j_gi hJ kC_26 fC_5_1 rfl fl_X2_47 dX2_create_7 (fun v2 ev2 gv2 => ?_)
  have hF := hF v2 ev2 gv2
  refine j_iconst hJ dX2_create_10 ?_
  refine j_iadd hJ dX2_create_11 ?_
  have g3 := hF.1; have hF := hF.2
  refine j_pi hJ g3 kC_26 fC_5_1 rfl fp_X2_47 dX2_create_12 (fun M4 eM4 => ?_)
  have hF := hF M4 eM4
  refine j_aload_n hJ dX2_create_15 rfl 1 rfl ?_
  refine j_dup hJ dX2_create_16 rfl ?_
  refine j_gi hJ kC_26 fC_5_2 rfl fl_X2_75 dX2_create_17 (fun v5 ev5 gv5 => ?_)
  have hF := hF v5 ev5 gv5
  refine j_iconst hJ dX2_create_20 ?_
  refine j_iadd hJ dX2_create_21 ?_
  have g6 := hF.1; have hF := hF.2
  refine j_pi hJ g6 kC_26 fC_5_2 rfl fp_X2_75 dX2_create_22 (fun M7 eM7 => ?_)
  have hF := hF M7 eM7
  refine j_aload_n hJ dX2_create_25 rfl 1 rfl ?_
  refine j_gr (e := 27) hJ kC_26 fC_5_4 fl_X2_15 dX2_create_26 rfl ?_
  refine j_iload_n hJ dX2_create_29 rfl 0 rfl ?_
  refine j_iload_n hJ dX2_create_30 rfl 2 rfl ?_
  refine j_iast hJ gv1 gp1 kC_27 hF.1 hF.2.1 dX2_create_31 (fun M8 eM8 => ?_)
  have hF := hF.2.2 M8 eM8
  refine j_aload_n hJ dX2_create_32 rfl 1 rfl ?_
  refine j_gr (e := 28) hJ kC_26 fC_5_5 fl_X2_19 dX2_create_33 rfl ?_
  refine j_iload_n hJ dX2_create_36 rfl 0 rfl ?_
  refine j_iload_n hJ dX2_create_37 rfl 3 rfl ?_
  refine j_iast hJ gv1 gp2 kC_28 hF.1 hF.2.1 dX2_create_38 (fun M9 eM9 => ?_)
  have hF := hF.2.2 M9 eM9
  refine j_aload_n hJ dX2_create_39 rfl 1 rfl ?_
  refine j_gr (e := 29) hJ kC_26 fC_5_6 fl_X2_22 dX2_create_40 rfl ?_
  refine j_iload_n hJ dX2_create_43 rfl 0 rfl ?_
  refine j_aload_n hJ dX2_create_44 rfl 1 rfl ?_
  refine j_gi hJ kC_26 fC_5_3 rfl fl_X2_62 dX2_create_45 (fun v10 ev10 gv10 => ?_)
  have hF := hF v10 ev10 gv10
  refine j_iast hJ gv1 gv10 kC_29 hF.1 hF.2.1 dX2_create_48 (fun M11 eM11 => ?_)
  have hF := hF.2.2 M11 eM11
  refine j_aload_n hJ dX2_create_49 rfl 1 rfl ?_
  refine j_ga hJ kC_26 fC_5_0 fl_X2_9 dX2_create_50 ?_
  refine j_iload_n hJ dX2_create_53 rfl 2 rfl ?_
  refine j_callVv hJ (c_X10_use (l := l) (D := D) (cy := cy) (ad := ad) hin) rfl om_189 ⟨rfl, rfl, Nat.le_of_ble_eq_true rfl, Nat.le_of_ble_eq_true rfl⟩ [.int (Ii p1)] mv_X2_78 hd_X10_usev kC_8 rfl rfl rfl (Nat.le_of_ble_eq_true rfl) dX2_create_54 ⟨p1, rfl, gp1, hF⟩ (fun M13 qM13 => ?_)
  have hF := qM13
  refine j_aload_n hJ dX2_create_57 rfl 1 rfl ?_
  refine j_ga hJ kC_26 fC_5_0 fl_X2_9 dX2_create_58 ?_
  refine j_iload_n hJ dX2_create_61 rfl 2 rfl ?_
  refine j_iload_n hJ dX2_create_62 rfl 3 rfl ?_
  refine j_callVi hJ (c_X10_slotsOf (l := l) (D := D) (cy := cy) (ad := ad) hin) rfl om_44 ⟨rfl, rfl, Nat.le_of_ble_eq_true rfl, Nat.le_of_ble_eq_true rfl⟩ [.int (Ii p1), .int (Ii p2)] mv_X2_51 hd_X10_slotsOfv kC_8 rfl rfl rfl (Nat.le_of_ble_eq_true rfl) dX2_create_63 ⟨p1, p2, rfl, gp1, gp2, hF⟩ (fun r14 M15 gr14 qM15 => ?_)
  have hF := qM15 gr14
  refine j_istore (lv' := [(4, .int (Ii r14)), (3, .int (Ii v1)), (0, .ref (ad 26)), (1, .int (Ii p1)), (2, .int (Ii p2))]) hJ dX2_create_66 (by decide) rfl ?_
  refine j_iconst hJ dX2_create_68 ?_
  refine j_istore (lv' := [(5, .int (Ii 0)), (4, .int (Ii r14)), (3, .int (Ii v1)), (0, .ref (ad 26)), (1, .int (Ii p1)), (2, .int (Ii p2))]) hJ dX2_create_69 (by decide) rfl ?_
  exact j_sub hJ [3, 4, 2, 1, 0] rfl (k_X2_create_b71 hin  hJ  p1 v1 r14 0 _ gp1 gv1 gr14 rk_0 hF)
def W_X2_rootPlace (ad : Nat → Nat) (Q : Int → MM → Prop) (av : List Value) (M : MM) : Prop := ∃ (p1 : Int), av = [.ref (ad 26), .int (Ii p1)] ∧ ri_ p1 ∧ w_X2_rootPlace  Q p1 M
set_option maxHeartbeats 4000000 in
set_option maxRecDepth 100000 in
theorem k_X2_rootPlace_b2 {l : Launch} {D : va_G} {cy : Nat → ClassId} {ad : Nat → Nat} {Q : Int → MM → Prop} {J : Nat → List (Nat × Value) → List Value → MM → Prop} (hin : jIn ad ksC.length)   (hJ : jOk l D vwCl (tyC cy) cy ad ftC ksC (XtC ad) Om RX2 cX2_rootPlace 3 1 ({ frames := 0, cells := 0, slots := 0, locals := 0 } : Room) Q J)  : ∀ (x1 x2 : Int) (M : MM), ri_ x1 → ri_ x2 → w_X2_rootPlace_b2  Q  x1 x2 M → J 2 [(0, .ref (ad 26)), (1, .int (Ii x1)), (2, .int (Ii x2))] [] M := by
  have H9 : ∀ (n : Nat) (x1 x2 : Int) (M : MM), ri_ x1 → ri_ x2 → jit (fun _ _ _ => False) (wb_X2_rootPlace_b2  Q ) n x1 x2 M → J 2 [(0, .ref (ad 26)), (1, .int (Ii x1)), (2, .int (Ii x2))] [] M := by
    intro n
    induction n with
    | zero => intro x1 x2 M gx1 gx2 hF; exact False.elim hF
    | succ n ih =>
    intro x1 x2 M gx1 gx2 hF
    have hF : wb_X2_rootPlace_b2  Q  (jit (fun _ _ _ => False) (wb_X2_rootPlace_b2  Q ) n) x1 x2 M := hF
    unfold wb_X2_rootPlace_b2 at hF
    refine j_iload_n hJ dX2_rootPlace_2 rfl 2 rfl ?_
    refine j_aload_n hJ dX2_rootPlace_3 rfl 0 rfl ?_
    refine j_gi hJ kC_26 fC_5_11 rfl fl_X2_89 dX2_rootPlace_4 (fun v1 ev1 gv1 => ?_)
    have hF := hF v1 ev1 gv1
    refine j_icmp_ge hJ 28 gx2 gv1 dX2_rootPlace_7 (by decide) (fun z2 => ?_) (fun z2 => ?_)
    · have hF := hF.1 z2
      refine j_iconst hJ dX2_rootPlace_28 ?_
      exact j_iret hJ rfl rk_m1 dX2_rootPlace_29 hF
    · have hF := hF.2 z2
      refine j_aload_n hJ dX2_rootPlace_10 rfl 0 rfl ?_
      refine j_gr (e := 33) hJ kC_26 fC_5_10 fl_X2_38 dX2_rootPlace_11 rfl ?_
      refine j_iload_n hJ dX2_rootPlace_14 rfl 2 rfl ?_
      refine j_iald hJ gx2 kC_33 hF.1 hF.2.1 dX2_rootPlace_15 (fun v3 ev3 gv3 => ?_)
      have hF := hF.2.2 v3 ev3 gv3
      refine j_iload_n hJ dX2_rootPlace_16 rfl 1 rfl ?_
      refine j_icmp_ne hJ 22 gv3 gx1 dX2_rootPlace_17 (by decide) (fun z4 => ?_) (fun z4 => ?_)
      · have hF := hF.1 z4
        refine j_iinc (lv' := [(2, .int (Ii (x2 + 1))), (0, .ref (ad 26)), (1, .int (Ii x1))]) (k := 2) hJ dX2_rootPlace_22 rfl (by decide) rfl ?_
        have g5 := hF.1; have hF := hF.2
        refine j_goto hJ 2 dX2_rootPlace_25 (by decide) ?_
        exact j_sub hJ [1, 2, 0] rfl (ih x1 (x2 + 1) _ gx1 g5 hF)
      · have hF := hF.2 z4
        refine j_iload_n hJ dX2_rootPlace_20 rfl 2 rfl ?_
        exact j_iret hJ rfl gx2 dX2_rootPlace_21 hF
  intro x1 x2 M gx1 gx2 hF
  obtain ⟨n, hF⟩ := hF
  exact H9 n x1 x2 M gx1 gx2 hF
set_option maxHeartbeats 4000000 in
set_option maxRecDepth 100000 in
theorem c_X2_rootPlace {l : Launch} {D : va_G} {cy : Nat → ClassId} {ad : Nat → Nat} (hin : jIn ad ksC.length) : jCN l D vwCl (tyC cy) cy ad ftC ksC (XtC ad) yX2_rootPlace (.code yX2_rootPlace cX2_rootPlace 3 (some .int) :: Om) ({ frames := 0, cells := 0, slots := 0, locals := 0 } : Room) 1 (W_X2_rootPlace ad) := by
  refine jCN_of (y := yX2_rootPlace) (cc := cX2_rootPlace) (nL := 3) (rk := 1) (rm := ({ frames := 0, cells := 0, slots := 0, locals := 0 } : Room)) (own := RX2) (tyC_ok cy) hin (XtC_ok ad) Om_good (by decide) rfl ?_
  intro Q av M hF
  obtain ⟨p1, rfl, gp1, hF⟩ := hF
  refine ⟨Nat.le_of_ble_eq_true rfl, fun J hJ => ?_⟩
  show J 0 [(0, .ref (ad 26)), (1, .int (Ii p1))] [] M
  unfold w_X2_rootPlace at hF
  refine j_iconst hJ dX2_rootPlace_0 ?_
  refine j_istore_n (lv' := [(2, .int (Ii 0)), (0, .ref (ad 26)), (1, .int (Ii p1))]) hJ dX2_rootPlace_1 rfl (by decide) rfl ?_
  exact j_sub hJ [1, 2, 0] rfl (k_X2_rootPlace_b2 hin  hJ  p1 0 _ gp1 rk_0 hF)
def W_X2_dropRoot (ad : Nat → Nat) (Q : Int → MM → Prop) (av : List Value) (M : MM) : Prop := ∃ (p1 : Int), av = [.ref (ad 26), .int (Ii p1)] ∧ ri_ p1 ∧ w_X2_dropRoot  Q p1 M
set_option maxHeartbeats 4000000 in
set_option maxRecDepth 100000 in
theorem k_X2_dropRoot_b12 {l : Launch} {D : va_G} {cy : Nat → ClassId} {ad : Nat → Nat} {Q : Int → MM → Prop} {J : Nat → List (Nat × Value) → List Value → MM → Prop} (hin : jIn ad ksC.length)   (hJ : jOk l D vwCl (tyC cy) cy ad ftC ksC (XtC ad) Om RX2 cX2_dropRoot 3 0 ({ frames := 0, cells := 0, slots := 0, locals := 0 } : Room) Q J)  : ∀ (x2 : Int) (M : MM), ri_ x2 → w_X2_dropRoot_b12  Q  x2 M → J 12 [(0, .ref (ad 26)), (2, .int (Ii x2))] [] M := by
  have H9 : ∀ (n : Nat) (x2 : Int) (M : MM), ri_ x2 → jit (fun _ _ => False) (wb_X2_dropRoot_b12  Q ) n x2 M → J 12 [(0, .ref (ad 26)), (2, .int (Ii x2))] [] M := by
    intro n
    induction n with
    | zero => intro x2 M gx2 hF; exact False.elim hF
    | succ n ih =>
    intro x2 M gx2 hF
    have hF : wb_X2_dropRoot_b12  Q  (jit (fun _ _ => False) (wb_X2_dropRoot_b12  Q ) n) x2 M := hF
    unfold wb_X2_dropRoot_b12 at hF
    refine j_iload_n hJ dX2_dropRoot_12 rfl 1 rfl ?_
    refine j_aload_n hJ dX2_dropRoot_13 rfl 0 rfl ?_
    refine j_gi hJ kC_26 fC_5_11 rfl fl_X2_89 dX2_dropRoot_14 (fun v1 ev1 gv1 => ?_)
    have hF := hF v1 ev1 gv1
    refine j_icmp_ge hJ 40 gx2 gv1 dX2_dropRoot_17 (by decide) (fun z2 => ?_) (fun z2 => ?_)
    · have hF := hF.1 z2
      exact j_vret hJ rfl dX2_dropRoot_40 hF
    · have hF := hF.2 z2
      refine j_aload_n hJ dX2_dropRoot_20 rfl 0 rfl ?_
      refine j_gr (e := 33) hJ kC_26 fC_5_10 fl_X2_38 dX2_dropRoot_21 rfl ?_
      refine j_iload_n hJ dX2_dropRoot_24 rfl 1 rfl ?_
      refine j_aload_n hJ dX2_dropRoot_25 rfl 0 rfl ?_
      refine j_gr (e := 33) hJ kC_26 fC_5_10 fl_X2_38 dX2_dropRoot_26 rfl ?_
      refine j_iload_n hJ dX2_dropRoot_29 rfl 1 rfl ?_
      refine j_iconst hJ dX2_dropRoot_30 ?_
      refine j_iadd hJ dX2_dropRoot_31 ?_
      have g3 := hF.1; have hF := hF.2
      refine j_iald hJ g3 kC_33 hF.1 hF.2.1 dX2_dropRoot_32 (fun v4 ev4 gv4 => ?_)
      have hF := hF.2.2 v4 ev4 gv4
      refine j_iast hJ gx2 gv4 kC_33 hF.1 hF.2.1 dX2_dropRoot_33 (fun M5 eM5 => ?_)
      have hF := hF.2.2 M5 eM5
      refine j_iinc (lv' := [(2, .int (Ii (x2 + 1))), (0, .ref (ad 26))]) (k := 1) hJ dX2_dropRoot_34 rfl (by decide) rfl ?_
      have g6 := hF.1; have hF := hF.2
      refine j_goto hJ 12 dX2_dropRoot_37 (by decide) ?_
      exact j_sub hJ [1, 0] rfl (ih (x2 + 1) _ g6 hF)
  intro x2 M gx2 hF
  obtain ⟨n, hF⟩ := hF
  exact H9 n x2 M gx2 hF
set_option maxHeartbeats 4000000 in
set_option maxRecDepth 100000 in
theorem c_X2_dropRoot {l : Launch} {D : va_G} {cy : Nat → ClassId} {ad : Nat → Nat} (hin : jIn ad ksC.length) : jCN l D vwCl (tyC cy) cy ad ftC ksC (XtC ad) yX2_dropRoot (.code yX2_dropRoot cX2_dropRoot 3 none :: Om) ({ frames := 0, cells := 0, slots := 0, locals := 0 } : Room) 0 (W_X2_dropRoot ad) := by
  refine jCN_of (y := yX2_dropRoot) (cc := cX2_dropRoot) (nL := 3) (rk := 0) (rm := ({ frames := 0, cells := 0, slots := 0, locals := 0 } : Room)) (own := RX2) (tyC_ok cy) hin (XtC_ok ad) Om_good (by decide) rfl ?_
  intro Q av M hF
  obtain ⟨p1, rfl, gp1, hF⟩ := hF
  refine ⟨Nat.le_of_ble_eq_true rfl, fun J hJ => ?_⟩
  show J 0 [(0, .ref (ad 26)), (1, .int (Ii p1))] [] M
  unfold w_X2_dropRoot at hF
  refine j_aload_n hJ dX2_dropRoot_0 rfl 0 rfl ?_
  refine j_dup hJ dX2_dropRoot_1 rfl ?_
  refine j_gi hJ kC_26 fC_5_11 rfl fl_X2_89 dX2_dropRoot_2 (fun v1 ev1 gv1 => ?_)
  have hF := hF v1 ev1 gv1
  refine j_iconst hJ dX2_dropRoot_5 ?_
  refine j_isub hJ dX2_dropRoot_6 ?_
  have g2 := hF.1; have hF := hF.2
  refine j_pi hJ g2 kC_26 fC_5_11 rfl fp_X2_89 dX2_dropRoot_7 (fun M3 eM3 => ?_)
  have hF := hF M3 eM3
  refine j_iload_n hJ dX2_dropRoot_10 rfl 1 rfl ?_
  refine j_istore_n (lv' := [(2, .int (Ii p1)), (0, .ref (ad 26)), (1, .int (Ii p1))]) hJ dX2_dropRoot_11 rfl (by decide) rfl ?_
  exact j_sub hJ [1, 0] rfl (k_X2_dropRoot_b12 hin  hJ  p1 _ gp1 hF)
def W_X2_swapRoots (ad : Nat → Nat) (Q : Int → MM → Prop) (av : List Value) (M : MM) : Prop := ∃ (p1 : Int) (p2 : Int), av = [.ref (ad 26), .int (Ii p1), .int (Ii p2)] ∧ ri_ p1 ∧ ri_ p2 ∧ w_X2_swapRoots  Q p1 p2 M
set_option maxHeartbeats 4000000 in
set_option maxRecDepth 100000 in
theorem k_X2_swapRoots_b47 {l : Launch} {D : va_G} {cy : Nat → ClassId} {ad : Nat → Nat} {Q : Int → MM → Prop} {J : Nat → List (Nat × Value) → List Value → MM → Prop} (hin : jIn ad ksC.length)   (hJ : jOk l D vwCl (tyC cy) cy ad ftC ksC (XtC ad) Om RX2 cX2_swapRoots 4 0 ({ frames := 0, cells := 0, slots := 0, locals := 0 } : Room) Q J) {K2 : Int → Int → Int → MM → Prop} (hK2 : ∀ (x1 x2 x3 : Int) (M : MM), ri_ x1 → ri_ x2 → ri_ x3 → K2 x1 x2 x3 M → J 2 [(0, .ref (ad 26)), (1, .int (Ii x1)), (2, .int (Ii x2)), (3, .int (Ii x3))] [] M) : ∀ (x1 x2 x3 : Int) (M : MM), ri_ x1 → ri_ x2 → ri_ x3 → w_X2_swapRoots_b47  Q K2 x1 x2 x3 M → J 47 [(0, .ref (ad 26)), (1, .int (Ii x1)), (2, .int (Ii x2)), (3, .int (Ii x3))] [] M := by
  intro x1 x2 x3 M gx1 gx2 gx3 hF
  unfold w_X2_swapRoots_b47 at hF
  refine j_iinc (lv' := [(3, .int (Ii (x3 + 1))), (0, .ref (ad 26)), (1, .int (Ii x1)), (2, .int (Ii x2))]) (k := 3) hJ dX2_swapRoots_47 rfl (by decide) rfl ?_
  have g1 := hF.1; have hF := hF.2
  refine j_goto hJ 2 dX2_swapRoots_50 (by decide) ?_
  exact j_sub hJ [1, 2, 3, 0] rfl (hK2 x1 x2 (x3 + 1) _ gx1 gx2 g1 hF)
set_option maxHeartbeats 4000000 in
set_option maxRecDepth 100000 in
theorem k_X2_swapRoots_b2 {l : Launch} {D : va_G} {cy : Nat → ClassId} {ad : Nat → Nat} {Q : Int → MM → Prop} {J : Nat → List (Nat × Value) → List Value → MM → Prop} (hin : jIn ad ksC.length)   (hJ : jOk l D vwCl (tyC cy) cy ad ftC ksC (XtC ad) Om RX2 cX2_swapRoots 4 0 ({ frames := 0, cells := 0, slots := 0, locals := 0 } : Room) Q J)  : ∀ (x1 x2 x3 : Int) (M : MM), ri_ x1 → ri_ x2 → ri_ x3 → w_X2_swapRoots_b2  Q  x1 x2 x3 M → J 2 [(0, .ref (ad 26)), (1, .int (Ii x1)), (2, .int (Ii x2)), (3, .int (Ii x3))] [] M := by
  have H9 : ∀ (n : Nat) (x1 x2 x3 : Int) (M : MM), ri_ x1 → ri_ x2 → ri_ x3 → jit (fun _ _ _ _ => False) (wb_X2_swapRoots_b2  Q ) n x1 x2 x3 M → J 2 [(0, .ref (ad 26)), (1, .int (Ii x1)), (2, .int (Ii x2)), (3, .int (Ii x3))] [] M := by
    intro n
    induction n with
    | zero => intro x1 x2 x3 M gx1 gx2 gx3 hF; exact False.elim hF
    | succ n ih =>
    intro x1 x2 x3 M gx1 gx2 gx3 hF
    have hF : wb_X2_swapRoots_b2  Q  (jit (fun _ _ _ _ => False) (wb_X2_swapRoots_b2  Q ) n) x1 x2 x3 M := hF
    unfold wb_X2_swapRoots_b2 at hF
    refine j_iload_n hJ dX2_swapRoots_2 rfl 3 rfl ?_
    refine j_aload_n hJ dX2_swapRoots_3 rfl 0 rfl ?_
    refine j_gi hJ kC_26 fC_5_11 rfl fl_X2_89 dX2_swapRoots_4 (fun v1 ev1 gv1 => ?_)
    have hF := hF v1 ev1 gv1
    refine j_icmp_ge hJ 53 gx3 gv1 dX2_swapRoots_7 (by decide) (fun z2 => ?_) (fun z2 => ?_)
    · have hF := hF.1 z2
      exact j_vret hJ rfl dX2_swapRoots_53 hF
    · have hF := hF.2 z2
      refine j_aload_n hJ dX2_swapRoots_10 rfl 0 rfl ?_
      refine j_gr (e := 33) hJ kC_26 fC_5_10 fl_X2_38 dX2_swapRoots_11 rfl ?_
      refine j_iload_n hJ dX2_swapRoots_14 rfl 3 rfl ?_
      refine j_iald hJ gx3 kC_33 hF.1 hF.2.1 dX2_swapRoots_15 (fun v3 ev3 gv3 => ?_)
      have hF := hF.2.2 v3 ev3 gv3
      refine j_iload_n hJ dX2_swapRoots_16 rfl 1 rfl ?_
      refine j_icmp_ne hJ 30 gv3 gx1 dX2_swapRoots_17 (by decide) (fun z4 => ?_) (fun z4 => ?_)
      · have hF := hF.1 z4
        refine j_aload_n hJ dX2_swapRoots_30 rfl 0 rfl ?_
        refine j_gr (e := 33) hJ kC_26 fC_5_10 fl_X2_38 dX2_swapRoots_31 rfl ?_
        refine j_iload_n hJ dX2_swapRoots_34 rfl 3 rfl ?_
        refine j_iald hJ gx3 kC_33 hF.1 hF.2.1 dX2_swapRoots_35 (fun v5 ev5 gv5 => ?_)
        have hF := hF.2.2 v5 ev5 gv5
        refine j_iload_n hJ dX2_swapRoots_36 rfl 2 rfl ?_
        refine j_icmp_ne hJ 47 gv5 gx2 dX2_swapRoots_37 (by decide) (fun z6 => ?_) (fun z6 => ?_)
        · have hF := hF.1 z6
          exact j_sub hJ [0, 1, 2, 3] rfl (k_X2_swapRoots_b47 hin  hJ ih x1 x2 x3 _ gx1 gx2 gx3 hF)
        · have hF := hF.2 z6
          refine j_aload_n hJ dX2_swapRoots_40 rfl 0 rfl ?_
          refine j_gr (e := 33) hJ kC_26 fC_5_10 fl_X2_38 dX2_swapRoots_41 rfl ?_
          refine j_iload_n hJ dX2_swapRoots_44 rfl 3 rfl ?_
          refine j_iload_n hJ dX2_swapRoots_45 rfl 1 rfl ?_
          refine j_iast hJ gx3 gx1 kC_33 hF.1 hF.2.1 dX2_swapRoots_46 (fun M7 eM7 => ?_)
          have hF := hF.2.2 M7 eM7
          exact j_sub hJ [0, 1, 2, 3] rfl (k_X2_swapRoots_b47 hin  hJ ih x1 x2 x3 _ gx1 gx2 gx3 hF)
      · have hF := hF.2 z4
        refine j_aload_n hJ dX2_swapRoots_20 rfl 0 rfl ?_
        refine j_gr (e := 33) hJ kC_26 fC_5_10 fl_X2_38 dX2_swapRoots_21 rfl ?_
        refine j_iload_n hJ dX2_swapRoots_24 rfl 3 rfl ?_
        refine j_iload_n hJ dX2_swapRoots_25 rfl 2 rfl ?_
        refine j_iast hJ gx3 gx2 kC_33 hF.1 hF.2.1 dX2_swapRoots_26 (fun M8 eM8 => ?_)
        have hF := hF.2.2 M8 eM8
        refine j_goto hJ 47 dX2_swapRoots_27 (by decide) ?_
        exact j_sub hJ [0, 1, 2, 3] rfl (k_X2_swapRoots_b47 hin  hJ ih x1 x2 x3 _ gx1 gx2 gx3 hF)
  intro x1 x2 x3 M gx1 gx2 gx3 hF
  obtain ⟨n, hF⟩ := hF
  exact H9 n x1 x2 x3 M gx1 gx2 gx3 hF
set_option maxHeartbeats 4000000 in
set_option maxRecDepth 100000 in
theorem c_X2_swapRoots {l : Launch} {D : va_G} {cy : Nat → ClassId} {ad : Nat → Nat} (hin : jIn ad ksC.length) : jCN l D vwCl (tyC cy) cy ad ftC ksC (XtC ad) yX2_swapRoots (.code yX2_swapRoots cX2_swapRoots 4 none :: Om) ({ frames := 0, cells := 0, slots := 0, locals := 0 } : Room) 0 (W_X2_swapRoots ad) := by
  refine jCN_of (y := yX2_swapRoots) (cc := cX2_swapRoots) (nL := 4) (rk := 0) (rm := ({ frames := 0, cells := 0, slots := 0, locals := 0 } : Room)) (own := RX2) (tyC_ok cy) hin (XtC_ok ad) Om_good (by decide) rfl ?_
  intro Q av M hF
  obtain ⟨p1, p2, rfl, gp1, gp2, hF⟩ := hF
  refine ⟨Nat.le_of_ble_eq_true rfl, fun J hJ => ?_⟩
  show J 0 [(0, .ref (ad 26)), (1, .int (Ii p1)), (2, .int (Ii p2))] [] M
  unfold w_X2_swapRoots at hF
  refine j_iconst hJ dX2_swapRoots_0 ?_
  refine j_istore_n (lv' := [(3, .int (Ii 0)), (0, .ref (ad 26)), (1, .int (Ii p1)), (2, .int (Ii p2))]) hJ dX2_swapRoots_1 rfl (by decide) rfl ?_
  exact j_sub hJ [1, 2, 3, 0] rfl (k_X2_swapRoots_b2 hin  hJ  p1 p2 0 _ gp1 gp2 rk_0 hF)
def W_X10_ownFields (ad : Nat → Nat) (Q : Int → MM → Prop) (av : List Value) (M : MM) : Prop := av = [.ref (ad 8)] ∧ w_X10_ownFields  Q  M
set_option maxHeartbeats 4000000 in
set_option maxRecDepth 100000 in
theorem c_X10_ownFields {l : Launch} {D : va_G} {cy : Nat → ClassId} {ad : Nat → Nat} (hin : jIn ad ksC.length) : jCN l D vwCl (tyC cy) cy ad ftC ksC (XtC ad) yX10_ownFields (.code yX10_ownFields cX10_ownFields 1 (some .int) :: Om) ({ frames := 0, cells := 0, slots := 0, locals := 0 } : Room) 1 (W_X10_ownFields ad) := by
  refine jCN_of (y := yX10_ownFields) (cc := cX10_ownFields) (nL := 1) (rk := 1) (rm := ({ frames := 0, cells := 0, slots := 0, locals := 0 } : Room)) (own := RX10) (tyC_ok cy) hin (XtC_ok ad) Om_good (by decide) rfl ?_
  intro Q av M hF
  obtain ⟨rfl, hF⟩ := hF
  refine ⟨Nat.le_of_ble_eq_true rfl, fun J hJ => ?_⟩
  show J 0 [(0, .ref (ad 8))] [] M
  unfold w_X10_ownFields at hF
  refine j_aload_n hJ dX10_ownFields_0 rfl 0 rfl ?_
  refine j_gi hJ kC_8 fC_13_0 rfl fl_X10_65 dX10_ownFields_1 (fun v1 ev1 gv1 => ?_)
  have hF := hF v1 ev1 gv1
  refine j_bipush hJ dX10_ownFields_4 (by decide) ?_
  refine j_imul hJ dX10_ownFields_6 ?_
  have g2 := hF.1; have hF := hF.2
  exact j_iret hJ rfl g2 dX10_ownFields_7 hF
def W_X10_isLinkStatic (ad : Nat → Nat) (Q : Int → MM → Prop) (av : List Value) (M : MM) : Prop := ∃ (p1 : Int), av = [.ref (ad 8), .int (Ii p1)] ∧ ri_ p1 ∧ w_X10_isLinkStatic  Q p1 M
set_option maxHeartbeats 4000000 in
set_option maxRecDepth 100000 in
theorem c_X10_isLinkStatic {l : Launch} {D : va_G} {cy : Nat → ClassId} {ad : Nat → Nat} (hin : jIn ad ksC.length) : jCN l D vwCl (tyC cy) cy ad ftC ksC (XtC ad) yX10_isLinkStatic (.code yX10_isLinkStatic cX10_isLinkStatic 2 (some .boolean) :: Om) ({ frames := 0, cells := 0, slots := 0, locals := 0 } : Room) 3 (W_X10_isLinkStatic ad) := by
  refine jCN_of (y := yX10_isLinkStatic) (cc := cX10_isLinkStatic) (nL := 2) (rk := 3) (rm := ({ frames := 0, cells := 0, slots := 0, locals := 0 } : Room)) (own := RX10) (tyC_ok cy) hin (XtC_ok ad) Om_good (by decide) rfl ?_
  intro Q av M hF
  obtain ⟨p1, rfl, gp1, hF⟩ := hF
  refine ⟨Nat.le_of_ble_eq_true rfl, fun J hJ => ?_⟩
  show J 0 [(0, .ref (ad 8)), (1, .int (Ii p1))] [] M
  unfold w_X10_isLinkStatic at hF
  refine j_aload_n hJ dX10_isLinkStatic_0 rfl 0 rfl ?_
  refine j_gr (e := 21) hJ kC_8 fC_13_13 fl_X10_50 dX10_isLinkStatic_1 rfl ?_
  refine j_iload_n hJ dX10_isLinkStatic_4 rfl 1 rfl ?_
  refine j_zald hJ gp1 kC_21 hF.1 hF.2.1 dX10_isLinkStatic_5 (fun v1 ev1 gv1 => ?_)
  have hF := hF.2.2 v1 ev1 gv1
  refine j_if_eq hJ 23 (jz_ri gv1) dX10_isLinkStatic_6 (by decide) (fun z2 => ?_) (fun z2 => ?_)
  · have hF := hF.1 z2
    refine j_iconst hJ dX10_isLinkStatic_23 ?_
    exact j_zret hJ rfl (by decide) dX10_isLinkStatic_24 hF
  · have hF := hF.2 z2
    refine j_aload_n hJ dX10_isLinkStatic_9 rfl 0 rfl ?_
    refine j_gr (e := 19) hJ kC_8 fC_13_11 fl_X10_44 dX10_isLinkStatic_10 rfl ?_
    refine j_iload_n hJ dX10_isLinkStatic_13 rfl 1 rfl ?_
    refine j_iald hJ gp1 kC_19 hF.1 hF.2.1 dX10_isLinkStatic_14 (fun v3 ev3 gv3 => ?_)
    have hF := hF.2.2 v3 ev3 gv3
    refine j_iconst hJ dX10_isLinkStatic_15 ?_
    refine j_icmp_ne hJ 23 gv3 rk_5 dX10_isLinkStatic_16 (by decide) (fun z4 => ?_) (fun z4 => ?_)
    · have hF := hF.1 z4
      refine j_iconst hJ dX10_isLinkStatic_23 ?_
      exact j_zret hJ rfl (by decide) dX10_isLinkStatic_24 hF
    · have hF := hF.2 z4
      refine j_iconst hJ dX10_isLinkStatic_19 ?_
      refine j_goto hJ 24 dX10_isLinkStatic_20 (by decide) ?_
      exact j_zret hJ rfl (by decide) dX10_isLinkStatic_24 hF
def W_X2_fitsSwapped (ad : Nat → Nat) (Q : Int → MM → Prop) (av : List Value) (M : MM) : Prop := ∃ (p1 : Int) (p2 : Int) (p3 : Int) (p4 : Int), av = [.ref (ad 26), .long (Ll p1), .int (Ii p2), .int (Ii p3), .int (Ii p4)] ∧ rl_ p1 ∧ ri_ p2 ∧ ri_ p3 ∧ ri_ p4 ∧ w_X2_fitsSwapped  Q p1 p2 p3 p4 M
set_option maxHeartbeats 4000000 in
set_option maxRecDepth 100000 in
theorem c_X2_fitsSwapped {l : Launch} {D : va_G} {cy : Nat → ClassId} {ad : Nat → Nat} (hin : jIn ad ksC.length) : jCN l D vwCl (tyC cy) cy ad ftC ksC (XtC ad) yX2_fitsSwapped (.code yX2_fitsSwapped cX2_fitsSwapped 6 (some .boolean) :: Om) ({ frames := 2, cells := 0, slots := 0, locals := 46 } : Room) 3 (W_X2_fitsSwapped ad) := by
  refine jCN_of (y := yX2_fitsSwapped) (cc := cX2_fitsSwapped) (nL := 6) (rk := 3) (rm := ({ frames := 2, cells := 0, slots := 0, locals := 46 } : Room)) (own := RX2) (tyC_ok cy) hin (XtC_ok ad) Om_good (by decide) rfl ?_
  intro Q av M hF
  obtain ⟨p1, p2, p3, p4, rfl, gp1, gp2, gp3, gp4, hF⟩ := hF
  refine ⟨Nat.le_of_ble_eq_true rfl, fun J hJ => ?_⟩
  show J 0 [(0, .ref (ad 26)), (1, .long (Ll p1)), (3, .int (Ii p2)), (4, .int (Ii p3)), (5, .int (Ii p4))] [] M
  unfold w_X2_fitsSwapped at hF
  refine j_lload_n hJ dX2_fitsSwapped_0 rfl 1 rfl ?_
  refine j_iload hJ dX2_fitsSwapped_1 3 rfl ?_
  refine j_i2l hJ gp3 dX2_fitsSwapped_3 ?_
  refine j_lcmp_ne hJ 24 gp1 (rl_ri gp3) dX2_fitsSwapped_4 dX2_fitsSwapped_5 (by decide) (fun z1 => ?_) (fun z1 => ?_)
  · have hF := hF.1 z1
    refine j_lload_n hJ dX2_fitsSwapped_24 rfl 1 rfl ?_
    refine j_iload hJ dX2_fitsSwapped_25 4 rfl ?_
    refine j_i2l hJ gp4 dX2_fitsSwapped_27 ?_
    refine j_lcmp_ne hJ 50 gp1 (rl_ri gp4) dX2_fitsSwapped_28 dX2_fitsSwapped_29 (by decide) (fun z2 => ?_) (fun z2 => ?_)
    · have hF := hF.1 z2
      refine j_iconst hJ dX2_fitsSwapped_50 ?_
      refine j_goto hJ 55 dX2_fitsSwapped_51 (by decide) ?_
      exact j_zret hJ rfl (by decide) dX2_fitsSwapped_55 hF
    · have hF := hF.2 z2
      refine j_aload_n hJ dX2_fitsSwapped_32 rfl 0 rfl ?_
      refine j_ga hJ kC_26 fC_5_0 fl_X2_9 dX2_fitsSwapped_33 ?_
      refine j_aload_n hJ dX2_fitsSwapped_36 rfl 0 rfl ?_
      refine j_gr (e := 27) hJ kC_26 fC_5_4 fl_X2_15 dX2_fitsSwapped_37 rfl ?_
      refine j_iload hJ dX2_fitsSwapped_40 3 rfl ?_
      refine j_iald hJ gp3 kC_27 hF.1 hF.2.1 dX2_fitsSwapped_42 (fun v3 ev3 gv3 => ?_)
      have hF := hF.2.2 v3 ev3 gv3
      refine j_iload_n hJ dX2_fitsSwapped_43 rfl 2 rfl ?_
      refine j_callVz hJ (c_X10_fits (l := l) (D := D) (cy := cy) (ad := ad) hin) rfl om_88 ⟨rfl, rfl, Nat.le_of_ble_eq_true rfl, Nat.le_of_ble_eq_true rfl⟩ [.int (Ii v3), .int (Ii p2)] mv_X2_71 hd_X10_fitsv kC_8 rfl rfl rfl (Nat.le_of_ble_eq_true rfl) dX2_fitsSwapped_44 ⟨v3, p2, rfl, gv3, gp2, hF⟩ (fun r4 M5 gr4 qM5 => ?_)
      have hF := qM5 gr4
      refine j_if_eq hJ 54 (jz_ri gr4) dX2_fitsSwapped_47 (by decide) (fun z6 => ?_) (fun z6 => ?_)
      · have hF := hF.1 z6
        refine j_iconst hJ dX2_fitsSwapped_54 ?_
        exact j_zret hJ rfl (by decide) dX2_fitsSwapped_55 hF
      · have hF := hF.2 z6
        refine j_iconst hJ dX2_fitsSwapped_50 ?_
        refine j_goto hJ 55 dX2_fitsSwapped_51 (by decide) ?_
        exact j_zret hJ rfl (by decide) dX2_fitsSwapped_55 hF
  · have hF := hF.2 z1
    refine j_aload_n hJ dX2_fitsSwapped_8 rfl 0 rfl ?_
    refine j_ga hJ kC_26 fC_5_0 fl_X2_9 dX2_fitsSwapped_9 ?_
    refine j_aload_n hJ dX2_fitsSwapped_12 rfl 0 rfl ?_
    refine j_gr (e := 27) hJ kC_26 fC_5_4 fl_X2_15 dX2_fitsSwapped_13 rfl ?_
    refine j_iload hJ dX2_fitsSwapped_16 4 rfl ?_
    refine j_iald hJ gp4 kC_27 hF.1 hF.2.1 dX2_fitsSwapped_18 (fun v7 ev7 gv7 => ?_)
    have hF := hF.2.2 v7 ev7 gv7
    refine j_iload_n hJ dX2_fitsSwapped_19 rfl 2 rfl ?_
    refine j_callVz hJ (c_X10_fits (l := l) (D := D) (cy := cy) (ad := ad) hin) rfl om_88 ⟨rfl, rfl, Nat.le_of_ble_eq_true rfl, Nat.le_of_ble_eq_true rfl⟩ [.int (Ii v7), .int (Ii p2)] mv_X2_71 hd_X10_fitsv kC_8 rfl rfl rfl (Nat.le_of_ble_eq_true rfl) dX2_fitsSwapped_20 ⟨v7, p2, rfl, gv7, gp2, hF⟩ (fun r8 M9 gr8 qM9 => ?_)
    have hF := qM9 gr8
    exact j_zret hJ rfl gr8 dX2_fitsSwapped_23 hF
def W_X2_canSwap (ad : Nat → Nat) (Q : Int → MM → Prop) (av : List Value) (M : MM) : Prop := ∃ (p1 : Int) (p2 : Int), av = [.ref (ad 26), .int (Ii p1), .int (Ii p2)] ∧ ri_ p1 ∧ ri_ p2 ∧ w_X2_canSwap  Q p1 p2 M
set_option maxHeartbeats 4000000 in
set_option maxRecDepth 100000 in
theorem k_X2_canSwap_b157 {l : Launch} {D : va_G} {cy : Nat → ClassId} {ad : Nat → Nat} {Q : Int → MM → Prop} {J : Nat → List (Nat × Value) → List Value → MM → Prop} (hin : jIn ad ksC.length)   (hJ : jOk l D vwCl (tyC cy) cy ad ftC ksC (XtC ad) Om RX2 cX2_canSwap 7 3 ({ frames := 3, cells := 0, slots := 0, locals := 71 } : Room) Q J) {K109 : Int → Int → Int → MM → Prop} (hK109 : ∀ (x1 x2 x3 : Int) (M : MM), ri_ x1 → ri_ x2 → ri_ x3 → K109 x1 x2 x3 M → J 109 [(0, .ref (ad 26)), (1, .int (Ii x1)), (2, .int (Ii x2)), (3, .int (Ii x3))] [] M) : ∀ (x1 x2 x3 : Int) (M : MM), ri_ x1 → ri_ x2 → ri_ x3 → w_X2_canSwap_b157  Q K109 x1 x2 x3 M → J 157 [(0, .ref (ad 26)), (1, .int (Ii x1)), (2, .int (Ii x2)), (3, .int (Ii x3))] [] M := by
  intro x1 x2 x3 M gx1 gx2 gx3 hF
  unfold w_X2_canSwap_b157 at hF
  refine j_iinc (lv' := [(3, .int (Ii (x3 + 1))), (0, .ref (ad 26)), (1, .int (Ii x1)), (2, .int (Ii x2))]) (k := 3) hJ dX2_canSwap_157 rfl (by decide) rfl ?_
  have g1 := hF.1; have hF := hF.2
  refine j_goto hJ 109 dX2_canSwap_160 (by decide) ?_
  exact j_sub hJ [1, 2, 3, 0] rfl (hK109 x1 x2 (x3 + 1) _ gx1 gx2 g1 hF)
set_option maxHeartbeats 4000000 in
set_option maxRecDepth 100000 in
theorem k_X2_canSwap_b109 {l : Launch} {D : va_G} {cy : Nat → ClassId} {ad : Nat → Nat} {Q : Int → MM → Prop} {J : Nat → List (Nat × Value) → List Value → MM → Prop} (hin : jIn ad ksC.length)   (hJ : jOk l D vwCl (tyC cy) cy ad ftC ksC (XtC ad) Om RX2 cX2_canSwap 7 3 ({ frames := 3, cells := 0, slots := 0, locals := 71 } : Room) Q J)  : ∀ (x1 x2 x3 : Int) (M : MM), ri_ x1 → ri_ x2 → ri_ x3 → w_X2_canSwap_b109  Q  x1 x2 x3 M → J 109 [(0, .ref (ad 26)), (1, .int (Ii x1)), (2, .int (Ii x2)), (3, .int (Ii x3))] [] M := by
  have H9 : ∀ (n : Nat) (x1 x2 x3 : Int) (M : MM), ri_ x1 → ri_ x2 → ri_ x3 → jit (fun _ _ _ _ => False) (wb_X2_canSwap_b109  Q ) n x1 x2 x3 M → J 109 [(0, .ref (ad 26)), (1, .int (Ii x1)), (2, .int (Ii x2)), (3, .int (Ii x3))] [] M := by
    intro n
    induction n with
    | zero => intro x1 x2 x3 M gx1 gx2 gx3 hF; exact False.elim hF
    | succ n ih =>
    intro x1 x2 x3 M gx1 gx2 gx3 hF
    have hF : wb_X2_canSwap_b109  Q  (jit (fun _ _ _ _ => False) (wb_X2_canSwap_b109  Q ) n) x1 x2 x3 M := hF
    unfold wb_X2_canSwap_b109 at hF
    refine j_iload_n hJ dX2_canSwap_109 rfl 3 rfl ?_
    refine j_aload_n hJ dX2_canSwap_110 rfl 0 rfl ?_
    refine j_ga hJ kC_26 fC_5_0 fl_X2_9 dX2_canSwap_111 ?_
    refine j_callVi hJ (c_X10_ownFields (l := l) (D := D) (cy := cy) (ad := ad) hin) rfl om_198 ⟨rfl, rfl, Nat.le_of_ble_eq_true rfl, Nat.le_of_ble_eq_true rfl⟩ [] mv_X2_99 hd_X10_ownFieldsv kC_8 rfl rfl rfl (Nat.le_of_ble_eq_true rfl) dX2_canSwap_114 ⟨rfl, hF⟩ (fun r1 M2 gr1 qM2 => ?_)
    have hF := qM2 gr1
    refine j_icmp_ge hJ 163 gx3 gr1 dX2_canSwap_117 (by decide) (fun z3 => ?_) (fun z3 => ?_)
    · have hF := hF.1 z3
      refine j_iconst hJ dX2_canSwap_163 ?_
      exact j_zret hJ rfl (by decide) dX2_canSwap_164 hF
    · have hF := hF.2 z3
      refine j_aload_n hJ dX2_canSwap_120 rfl 0 rfl ?_
      refine j_ga hJ kC_26 fC_5_0 fl_X2_9 dX2_canSwap_121 ?_
      refine j_iload_n hJ dX2_canSwap_124 rfl 3 rfl ?_
      refine j_callVz hJ (c_X10_isLinkStatic (l := l) (D := D) (cy := cy) (ad := ad) hin) rfl om_202 ⟨rfl, rfl, Nat.le_of_ble_eq_true rfl, Nat.le_of_ble_eq_true rfl⟩ [.int (Ii x3)] mv_X2_103 hd_X10_isLinkStaticv kC_8 rfl rfl rfl (Nat.le_of_ble_eq_true rfl) dX2_canSwap_125 ⟨x3, rfl, gx3, hF⟩ (fun r4 M5 gr4 qM5 => ?_)
      have hF := qM5 gr4
      refine j_if_eq hJ 157 (jz_ri gr4) dX2_canSwap_128 (by decide) (fun z6 => ?_) (fun z6 => ?_)
      · have hF := hF.1 z6
        exact j_sub hJ [0, 1, 2, 3] rfl (k_X2_canSwap_b157 hin  hJ ih x1 x2 x3 _ gx1 gx2 gx3 hF)
      · have hF := hF.2 z6
        refine j_aload_n hJ dX2_canSwap_131 rfl 0 rfl ?_
        refine j_aload_n hJ dX2_canSwap_132 rfl 0 rfl ?_
        refine j_gr (e := 32) hJ kC_26 fC_5_9 fl_X2_35 dX2_canSwap_133 rfl ?_
        refine j_iload_n hJ dX2_canSwap_136 rfl 3 rfl ?_
        refine j_lald hJ gx3 kC_32 hF.1 hF.2.1 dX2_canSwap_137 (fun v7 ev7 gv7 => ?_)
        have hF := hF.2.2 v7 ev7 gv7
        refine j_aload_n hJ dX2_canSwap_138 rfl 0 rfl ?_
        refine j_ga hJ kC_26 fC_5_0 fl_X2_9 dX2_canSwap_139 ?_
        refine j_gr (e := 20) hJ kC_8 fC_13_12 fl_X2_106 dX2_canSwap_142 rfl ?_
        refine j_iload_n hJ dX2_canSwap_145 rfl 3 rfl ?_
        refine j_iald hJ gx3 kC_20 hF.1 hF.2.1 dX2_canSwap_146 (fun v8 ev8 gv8 => ?_)
        have hF := hF.2.2 v8 ev8 gv8
        refine j_iload_n hJ dX2_canSwap_147 rfl 1 rfl ?_
        refine j_iload_n hJ dX2_canSwap_148 rfl 2 rfl ?_
        refine j_callVz hJ (c_X2_fitsSwapped (l := l) (D := D) (cy := cy) (ad := ad) hin) rfl om_206 ⟨rfl, rfl, Nat.le_of_ble_eq_true rfl, Nat.le_of_ble_eq_true rfl⟩ [.long (Ll v7), .int (Ii v8), .int (Ii x1), .int (Ii x2)] mv_X2_95 hd_X2_fitsSwappedv kC_26 rfl rfl rfl (Nat.le_of_ble_eq_true rfl) dX2_canSwap_149 ⟨v7, v8, x1, x2, rfl, gv7, gv8, gx1, gx2, hF⟩ (fun r9 M10 gr9 qM10 => ?_)
        have hF := qM10 gr9
        refine j_if_ne hJ 157 (jz_ri gr9) dX2_canSwap_152 (by decide) (fun z11 => ?_) (fun z11 => ?_)
        · have hF := hF.1 z11
          exact j_sub hJ [0, 1, 2, 3] rfl (k_X2_canSwap_b157 hin  hJ ih x1 x2 x3 _ gx1 gx2 gx3 hF)
        · have hF := hF.2 z11
          refine j_iconst hJ dX2_canSwap_155 ?_
          exact j_zret hJ rfl (by decide) dX2_canSwap_156 hF
  intro x1 x2 x3 M gx1 gx2 gx3 hF
  obtain ⟨n, hF⟩ := hF
  exact H9 n x1 x2 x3 M gx1 gx2 gx3 hF
set_option maxHeartbeats 4000000 in
set_option maxRecDepth 100000 in
theorem k_X2_canSwap_b95 {l : Launch} {D : va_G} {cy : Nat → ClassId} {ad : Nat → Nat} {Q : Int → MM → Prop} {J : Nat → List (Nat × Value) → List Value → MM → Prop} (hin : jIn ad ksC.length)   (hJ : jOk l D vwCl (tyC cy) cy ad ftC ksC (XtC ad) Om RX2 cX2_canSwap 7 3 ({ frames := 3, cells := 0, slots := 0, locals := 71 } : Room) Q J) {K2 : Int → Int → Int → MM → Prop} (hK2 : ∀ (x1 x2 x3 : Int) (M : MM), ri_ x1 → ri_ x2 → ri_ x3 → K2 x1 x2 x3 M → J 2 [(0, .ref (ad 26)), (1, .int (Ii x1)), (2, .int (Ii x2)), (3, .int (Ii x3))] [] M) {K34 : Int → Int → Int → Int → Int → MM → Prop} (hK34 : ∀ (x1 x2 x3 x4 x5 : Int) (M : MM), ri_ x1 → ri_ x2 → ri_ x3 → ri_ x4 → ri_ x5 → K34 x1 x2 x3 x4 x5 M → J 34 [(0, .ref (ad 26)), (1, .int (Ii x1)), (2, .int (Ii x2)), (3, .int (Ii x3)), (4, .int (Ii x4)), (5, .int (Ii x5))] [] M) : ∀ (x1 x2 x3 x4 x5 : Int) (M : MM), ri_ x1 → ri_ x2 → ri_ x3 → ri_ x4 → ri_ x5 → w_X2_canSwap_b95  Q K2 K34 x1 x2 x3 x4 x5 M → J 95 [(0, .ref (ad 26)), (1, .int (Ii x1)), (2, .int (Ii x2)), (3, .int (Ii x3)), (4, .int (Ii x4)), (5, .int (Ii x5))] [] M := by
  intro x1 x2 x3 x4 x5 M gx1 gx2 gx3 gx4 gx5 hF
  unfold w_X2_canSwap_b95 at hF
  refine j_iinc (lv' := [(5, .int (Ii (x5 + 1))), (0, .ref (ad 26)), (1, .int (Ii x1)), (2, .int (Ii x2)), (3, .int (Ii x3)), (4, .int (Ii x4))]) (k := 5) hJ dX2_canSwap_95 rfl (by decide) rfl ?_
  have g1 := hF.1; have hF := hF.2
  refine j_goto hJ 34 dX2_canSwap_98 (by decide) ?_
  exact j_sub hJ [1, 2, 3, 4, 5, 0] rfl (hK34 x1 x2 x3 x4 (x5 + 1) _ gx1 gx2 gx3 gx4 g1 hF)
set_option maxHeartbeats 4000000 in
set_option maxRecDepth 100000 in
theorem k_X2_canSwap_b34 {l : Launch} {D : va_G} {cy : Nat → ClassId} {ad : Nat → Nat} {Q : Int → MM → Prop} {J : Nat → List (Nat × Value) → List Value → MM → Prop} (hin : jIn ad ksC.length)   (hJ : jOk l D vwCl (tyC cy) cy ad ftC ksC (XtC ad) Om RX2 cX2_canSwap 7 3 ({ frames := 3, cells := 0, slots := 0, locals := 71 } : Room) Q J) {K2 : Int → Int → Int → MM → Prop} (hK2 : ∀ (x1 x2 x3 : Int) (M : MM), ri_ x1 → ri_ x2 → ri_ x3 → K2 x1 x2 x3 M → J 2 [(0, .ref (ad 26)), (1, .int (Ii x1)), (2, .int (Ii x2)), (3, .int (Ii x3))] [] M) : ∀ (x1 x2 x3 x4 x5 : Int) (M : MM), ri_ x1 → ri_ x2 → ri_ x3 → ri_ x4 → ri_ x5 → w_X2_canSwap_b34  Q K2 x1 x2 x3 x4 x5 M → J 34 [(0, .ref (ad 26)), (1, .int (Ii x1)), (2, .int (Ii x2)), (3, .int (Ii x3)), (4, .int (Ii x4)), (5, .int (Ii x5))] [] M := by
  have H9 : ∀ (n : Nat) (x1 x2 x3 x4 x5 : Int) (M : MM), ri_ x1 → ri_ x2 → ri_ x3 → ri_ x4 → ri_ x5 → jit (fun _ _ _ _ _ _ => False) (wb_X2_canSwap_b34  Q K2) n x1 x2 x3 x4 x5 M → J 34 [(0, .ref (ad 26)), (1, .int (Ii x1)), (2, .int (Ii x2)), (3, .int (Ii x3)), (4, .int (Ii x4)), (5, .int (Ii x5))] [] M := by
    intro n
    induction n with
    | zero => intro x1 x2 x3 x4 x5 M gx1 gx2 gx3 gx4 gx5 hF; exact False.elim hF
    | succ n ih =>
    intro x1 x2 x3 x4 x5 M gx1 gx2 gx3 gx4 gx5 hF
    have hF : wb_X2_canSwap_b34  Q K2 (jit (fun _ _ _ _ _ _ => False) (wb_X2_canSwap_b34  Q K2) n) x1 x2 x3 x4 x5 M := hF
    unfold wb_X2_canSwap_b34 at hF
    refine j_iload hJ dX2_canSwap_34 5 rfl ?_
    refine j_iload hJ dX2_canSwap_36 4 rfl ?_
    refine j_icmp_ge hJ 101 gx5 gx4 dX2_canSwap_38 (by decide) (fun z1 => ?_) (fun z1 => ?_)
    · have hF := hF.1 z1
      refine j_iinc (lv' := [(3, .int (Ii (x3 + 1))), (0, .ref (ad 26)), (1, .int (Ii x1)), (2, .int (Ii x2)), (4, .int (Ii x4)), (5, .int (Ii x5))]) (k := 3) hJ dX2_canSwap_101 rfl (by decide) rfl ?_
      have g2 := hF.1; have hF := hF.2
      refine j_goto hJ 2 dX2_canSwap_104 (by decide) ?_
      exact j_sub hJ [1, 2, 3, 0] rfl (hK2 x1 x2 (x3 + 1) _ gx1 gx2 g2 hF)
    · have hF := hF.2 z1
      refine j_aload_n hJ dX2_canSwap_41 rfl 0 rfl ?_
      refine j_gr (e := 29) hJ kC_26 fC_5_6 fl_X2_22 dX2_canSwap_42 rfl ?_
      refine j_iload_n hJ dX2_canSwap_45 rfl 3 rfl ?_
      refine j_iald hJ gx3 kC_29 hF.1 hF.2.1 dX2_canSwap_46 (fun v3 ev3 gv3 => ?_)
      have hF := hF.2.2 v3 ev3 gv3
      refine j_iload hJ dX2_canSwap_47 5 rfl ?_
      refine j_iadd hJ dX2_canSwap_49 ?_
      have g4 := hF.1; have hF := hF.2
      refine j_istore (lv' := [(6, .int (Ii (v3 + x5))), (0, .ref (ad 26)), (1, .int (Ii x1)), (2, .int (Ii x2)), (3, .int (Ii x3)), (4, .int (Ii x4)), (5, .int (Ii x5))]) hJ dX2_canSwap_50 (by decide) rfl ?_
      refine j_aload_n hJ dX2_canSwap_52 rfl 1 rfl ?_
      refine j_gr (e := 31) hJ kC_26 fC_5_8 fl_X2_29 dX2_canSwap_53 rfl ?_
      refine j_iload hJ dX2_canSwap_56 0 rfl ?_
      refine j_zald hJ g4 kC_31 hF.1 hF.2.1 dX2_canSwap_58 (fun v5 ev5 gv5 => ?_)
      have hF := hF.2.2 v5 ev5 gv5
      refine j_if_eq hJ 95 (jz_ri gv5) dX2_canSwap_59 (by decide) (fun z6 => ?_) (fun z6 => ?_)
      · have hF := hF.1 z6
        exact j_sub hJ [1, 2, 3, 4, 5, 6] rfl (k_X2_canSwap_b95 hin  hJ hK2 ih x1 x2 x3 x4 x5 _ gx1 gx2 gx3 gx4 gx5 hF)
      · have hF := hF.2 z6
        refine j_aload_n hJ dX2_canSwap_62 rfl 1 rfl ?_
        refine j_aload_n hJ dX2_canSwap_63 rfl 1 rfl ?_
        refine j_gr (e := 30) hJ kC_26 fC_5_7 fl_X2_25 dX2_canSwap_64 rfl ?_
        refine j_iload hJ dX2_canSwap_67 0 rfl ?_
        refine j_lald hJ g4 kC_30 hF.1 hF.2.1 dX2_canSwap_69 (fun v7 ev7 gv7 => ?_)
        have hF := hF.2.2 v7 ev7 gv7
        refine j_aload_n hJ dX2_canSwap_70 rfl 1 rfl ?_
        refine j_ga hJ kC_26 fC_5_0 fl_X2_9 dX2_canSwap_71 ?_
        refine j_aload_n hJ dX2_canSwap_74 rfl 1 rfl ?_
        refine j_gr (e := 27) hJ kC_26 fC_5_4 fl_X2_15 dX2_canSwap_75 rfl ?_
        refine j_iload_n hJ dX2_canSwap_78 rfl 4 rfl ?_
        refine j_iald hJ gx3 kC_27 hF.1 hF.2.1 dX2_canSwap_79 (fun v8 ev8 gv8 => ?_)
        have hF := hF.2.2 v8 ev8 gv8
        refine j_iload hJ dX2_canSwap_80 6 rfl ?_
        refine j_callVi hJ (c_X10_linkAt (l := l) (D := D) (cy := cy) (ad := ad) hin) rfl om_80 ⟨rfl, rfl, Nat.le_of_ble_eq_true rfl, Nat.le_of_ble_eq_true rfl⟩ [.int (Ii v8), .int (Ii x5)] mv_X2_92 hd_X10_linkAtv kC_8 rfl rfl rfl (Nat.le_of_ble_eq_true rfl) dX2_canSwap_82 ⟨v8, x5, rfl, gv8, gx5, hF⟩ (fun r9 M10 gr9 qM10 => ?_)
        have hF := qM10 gr9
        refine j_iload_n hJ dX2_canSwap_85 rfl 2 rfl ?_
        refine j_iload_n hJ dX2_canSwap_86 rfl 3 rfl ?_
        refine j_callVz hJ (c_X2_fitsSwapped (l := l) (D := D) (cy := cy) (ad := ad) hin) rfl om_206 ⟨rfl, rfl, Nat.le_of_ble_eq_true rfl, Nat.le_of_ble_eq_true rfl⟩ [.long (Ll v7), .int (Ii r9), .int (Ii x1), .int (Ii x2)] mv_X2_95 hd_X2_fitsSwappedv kC_26 rfl rfl rfl (Nat.le_of_ble_eq_true rfl) dX2_canSwap_87 ⟨v7, r9, x1, x2, rfl, gv7, gr9, gx1, gx2, hF⟩ (fun r11 M12 gr11 qM12 => ?_)
        have hF := qM12 gr11
        refine j_if_ne hJ 95 (jz_ri gr11) dX2_canSwap_90 (by decide) (fun z13 => ?_) (fun z13 => ?_)
        · have hF := hF.1 z13
          exact j_sub hJ [1, 2, 3, 4, 5, 6] rfl (k_X2_canSwap_b95 hin  hJ hK2 ih x1 x2 x3 x4 x5 _ gx1 gx2 gx3 gx4 gx5 hF)
        · have hF := hF.2 z13
          refine j_iconst hJ dX2_canSwap_93 ?_
          exact j_zret hJ rfl (by decide) dX2_canSwap_94 hF
  intro x1 x2 x3 x4 x5 M gx1 gx2 gx3 gx4 gx5 hF
  obtain ⟨n, hF⟩ := hF
  exact H9 n x1 x2 x3 x4 x5 M gx1 gx2 gx3 gx4 gx5 hF
set_option maxHeartbeats 4000000 in
set_option maxRecDepth 100000 in
theorem k_X2_canSwap_b29 {l : Launch} {D : va_G} {cy : Nat → ClassId} {ad : Nat → Nat} {Q : Int → MM → Prop} {J : Nat → List (Nat × Value) → List Value → MM → Prop} (hin : jIn ad ksC.length)   (hJ : jOk l D vwCl (tyC cy) cy ad ftC ksC (XtC ad) Om RX2 cX2_canSwap 7 3 ({ frames := 3, cells := 0, slots := 0, locals := 71 } : Room) Q J) {K2 : Int → Int → Int → MM → Prop} (hK2 : ∀ (x1 x2 x3 : Int) (M : MM), ri_ x1 → ri_ x2 → ri_ x3 → K2 x1 x2 x3 M → J 2 [(0, .ref (ad 26)), (1, .int (Ii x1)), (2, .int (Ii x2)), (3, .int (Ii x3))] [] M) : ∀ (x1 x2 x3 s0 : Int) (M : MM), ri_ x1 → ri_ x2 → ri_ x3 → ri_ s0 → w_X2_canSwap_b29  Q K2 x1 x2 x3 s0 M → J 29 [(0, .ref (ad 26)), (1, .int (Ii x1)), (2, .int (Ii x2)), (3, .int (Ii x3))] [.int (Ii s0)] M := by
  intro x1 x2 x3 s0 M gx1 gx2 gx3 gs0 hF
  unfold w_X2_canSwap_b29 at hF
  refine j_istore (lv' := [(4, .int (Ii s0)), (0, .ref (ad 26)), (1, .int (Ii x1)), (2, .int (Ii x2)), (3, .int (Ii x3))]) hJ dX2_canSwap_29 (by decide) rfl ?_
  refine j_iconst hJ dX2_canSwap_31 ?_
  refine j_istore (lv' := [(5, .int (Ii 0)), (4, .int (Ii s0)), (0, .ref (ad 26)), (1, .int (Ii x1)), (2, .int (Ii x2)), (3, .int (Ii x3))]) hJ dX2_canSwap_32 (by decide) rfl ?_
  exact j_sub hJ [2, 3, 4, 5, 1, 0] rfl (k_X2_canSwap_b34 hin  hJ hK2 x1 x2 x3 s0 0 _ gx1 gx2 gx3 gs0 rk_0 hF)
set_option maxHeartbeats 4000000 in
set_option maxRecDepth 100000 in
theorem k_X2_canSwap_b2 {l : Launch} {D : va_G} {cy : Nat → ClassId} {ad : Nat → Nat} {Q : Int → MM → Prop} {J : Nat → List (Nat × Value) → List Value → MM → Prop} (hin : jIn ad ksC.length)   (hJ : jOk l D vwCl (tyC cy) cy ad ftC ksC (XtC ad) Om RX2 cX2_canSwap 7 3 ({ frames := 3, cells := 0, slots := 0, locals := 71 } : Room) Q J)  : ∀ (x1 x2 x3 : Int) (M : MM), ri_ x1 → ri_ x2 → ri_ x3 → w_X2_canSwap_b2  Q  x1 x2 x3 M → J 2 [(0, .ref (ad 26)), (1, .int (Ii x1)), (2, .int (Ii x2)), (3, .int (Ii x3))] [] M := by
  have H9 : ∀ (n : Nat) (x1 x2 x3 : Int) (M : MM), ri_ x1 → ri_ x2 → ri_ x3 → jit (fun _ _ _ _ => False) (wb_X2_canSwap_b2  Q ) n x1 x2 x3 M → J 2 [(0, .ref (ad 26)), (1, .int (Ii x1)), (2, .int (Ii x2)), (3, .int (Ii x3))] [] M := by
    intro n
    induction n with
    | zero => intro x1 x2 x3 M gx1 gx2 gx3 hF; exact False.elim hF
    | succ n ih =>
    intro x1 x2 x3 M gx1 gx2 gx3 hF
    have hF : wb_X2_canSwap_b2  Q  (jit (fun _ _ _ _ => False) (wb_X2_canSwap_b2  Q ) n) x1 x2 x3 M := hF
    unfold wb_X2_canSwap_b2 at hF
    refine j_iload_n hJ dX2_canSwap_2 rfl 3 rfl ?_
    refine j_aload_n hJ dX2_canSwap_3 rfl 0 rfl ?_
    refine j_gi hJ kC_26 fC_5_1 rfl fl_X2_47 dX2_canSwap_4 (fun v1 ev1 gv1 => ?_)
    have hF := hF v1 ev1 gv1
    refine j_icmp_ge hJ 107 gx3 gv1 dX2_canSwap_7 (by decide) (fun z2 => ?_) (fun z2 => ?_)
    · have hF := hF.1 z2
      refine j_iconst hJ dX2_canSwap_107 ?_
      refine j_istore_n (lv' := [(3, .int (Ii 0)), (0, .ref (ad 26)), (1, .int (Ii x1)), (2, .int (Ii x2))]) hJ dX2_canSwap_108 rfl (by decide) rfl ?_
      exact j_sub hJ [1, 2, 3, 0] rfl (k_X2_canSwap_b109 hin  hJ  x1 x2 0 _ gx1 gx2 rk_0 hF)
    · have hF := hF.2 z2
      refine j_aload_n hJ dX2_canSwap_10 rfl 0 rfl ?_
      refine j_gr (e := 27) hJ kC_26 fC_5_4 fl_X2_15 dX2_canSwap_11 rfl ?_
      refine j_iload_n hJ dX2_canSwap_14 rfl 3 rfl ?_
      refine j_iald hJ gx3 kC_27 hF.1 hF.2.1 dX2_canSwap_15 (fun v3 ev3 gv3 => ?_)
      have hF := hF.2.2 v3 ev3 gv3
      refine j_iconst hJ dX2_canSwap_16 ?_
      refine j_icmp_ne hJ 24 gv3 rk_m1 dX2_canSwap_17 (by decide) (fun z4 => ?_) (fun z4 => ?_)
      · have hF := hF.1 z4
        refine j_aload_n hJ dX2_canSwap_24 rfl 0 rfl ?_
        refine j_iload_n hJ dX2_canSwap_25 rfl 3 rfl ?_
        refine j_callVi hJ (c_X2_slotsOf (l := l) (D := D) (cy := cy) (ad := ad) hin) rfl om_182 ⟨rfl, rfl, Nat.le_of_ble_eq_true rfl, Nat.le_of_ble_eq_true rfl⟩ [.int (Ii x3)] mv_X2_59 hd_X2_slotsOfv kC_26 rfl rfl rfl (Nat.le_of_ble_eq_true rfl) dX2_canSwap_26 ⟨x3, rfl, gx3, hF⟩ (fun r5 M6 gr5 qM6 => ?_)
        have hF := qM6 gr5
        exact j_sub hJ [0, 1, 2, 3] rfl (k_X2_canSwap_b29 hin  hJ ih x1 x2 x3 r5 _ gx1 gx2 gx3 gr5 hF)
      · have hF := hF.2 z4
        refine j_iconst hJ dX2_canSwap_20 ?_
        refine j_goto hJ 29 dX2_canSwap_21 (by decide) ?_
        exact j_sub hJ [0, 1, 2, 3] rfl (k_X2_canSwap_b29 hin  hJ ih x1 x2 x3 0 _ gx1 gx2 gx3 rk_0 hF)
  intro x1 x2 x3 M gx1 gx2 gx3 hF
  obtain ⟨n, hF⟩ := hF
  exact H9 n x1 x2 x3 M gx1 gx2 gx3 hF
set_option maxHeartbeats 4000000 in
set_option maxRecDepth 100000 in
theorem c_X2_canSwap {l : Launch} {D : va_G} {cy : Nat → ClassId} {ad : Nat → Nat} (hin : jIn ad ksC.length) : jCN l D vwCl (tyC cy) cy ad ftC ksC (XtC ad) yX2_canSwap (.code yX2_canSwap cX2_canSwap 7 (some .boolean) :: Om) ({ frames := 3, cells := 0, slots := 0, locals := 71 } : Room) 3 (W_X2_canSwap ad) := by
  refine jCN_of (y := yX2_canSwap) (cc := cX2_canSwap) (nL := 7) (rk := 3) (rm := ({ frames := 3, cells := 0, slots := 0, locals := 71 } : Room)) (own := RX2) (tyC_ok cy) hin (XtC_ok ad) Om_good (by decide) rfl ?_
  intro Q av M hF
  obtain ⟨p1, p2, rfl, gp1, gp2, hF⟩ := hF
  refine ⟨Nat.le_of_ble_eq_true rfl, fun J hJ => ?_⟩
  show J 0 [(0, .ref (ad 26)), (1, .int (Ii p1)), (2, .int (Ii p2))] [] M
  unfold w_X2_canSwap at hF
  refine j_iconst hJ dX2_canSwap_0 ?_
  refine j_istore_n (lv' := [(3, .int (Ii 0)), (0, .ref (ad 26)), (1, .int (Ii p1)), (2, .int (Ii p2))]) hJ dX2_canSwap_1 rfl (by decide) rfl ?_
  exact j_sub hJ [1, 2, 3, 0] rfl (k_X2_canSwap_b2 hin  hJ  p1 p2 0 _ gp1 gp2 rk_0 hF)
def W_J7_rangeCheck_23922_C (ad : Nat → Nat) (Q : Int → MM → Prop) (av : List Value) (M : MM) : Prop := ∃ (p1 : Int) (p2 : Int) (p3 : Int), av = [.int (Ii p1), .int (Ii p2), .int (Ii p3)] ∧ ri_ p1 ∧ ri_ p2 ∧ ri_ p3 ∧ w_J7_rangeCheck_23922_C  Q p1 p2 p3 M
set_option maxHeartbeats 4000000 in
set_option maxRecDepth 100000 in
theorem c_J7_rangeCheck_23922_C {l : Launch} {D : va_G} {cy : Nat → ClassId} {ad : Nat → Nat} (hin : jIn ad ksC.length) : jCN l D vwCl (tyC cy) cy ad ftC ksC (XtC ad) yJ7_rangeCheck_23922 (.code yJ7_rangeCheck_23922 cJ7_rangeCheck_23922 3 none :: Om) ({ frames := 0, cells := 0, slots := 0, locals := 0 } : Room) 0 (W_J7_rangeCheck_23922_C ad) := by
  refine jCN_of (y := yJ7_rangeCheck_23922) (cc := cJ7_rangeCheck_23922) (nL := 3) (rk := 0) (rm := ({ frames := 0, cells := 0, slots := 0, locals := 0 } : Room)) (own := RJ7) (tyC_ok cy) hin (XtC_ok ad) Om_good (by decide) rfl ?_
  intro Q av M hF
  obtain ⟨p1, p2, p3, rfl, gp1, gp2, gp3, hF⟩ := hF
  refine ⟨Nat.le_of_ble_eq_true rfl, fun J hJ => ?_⟩
  show J 0 [(0, .int (Ii p1)), (1, .int (Ii p2)), (2, .int (Ii p3))] [] M
  unfold w_J7_rangeCheck_23922_C at hF
  refine j_iload_n hJ dJ7_rangeCheck_23922_0 rfl 1 rfl ?_
  refine j_iload_n hJ dJ7_rangeCheck_23922_1 rfl 2 rfl ?_
  refine j_icmp_le hJ 46 gp2 gp3 dJ7_rangeCheck_23922_2 (by decide) (fun z1 => ?_) (fun z1 => ?_)
  · have hF := hF.1 z1
    refine j_iload_n hJ dJ7_rangeCheck_23922_46 rfl 1 rfl ?_
    refine j_if_ge hJ 59 gp2 dJ7_rangeCheck_23922_47 (by decide) (fun z2 => ?_) (fun z2 => ?_)
    · have hF := hF.1 z2
      refine j_iload_n hJ dJ7_rangeCheck_23922_59 rfl 2 rfl ?_
      refine j_iload_n hJ dJ7_rangeCheck_23922_60 rfl 0 rfl ?_
      refine j_icmp_le hJ 73 gp3 gp1 dJ7_rangeCheck_23922_61 (by decide) (fun z3 => ?_) (fun z3 => ?_)
      · have hF := hF.1 z3
        exact j_vret hJ rfl dJ7_rangeCheck_23922_73 hF
      · have hF := hF.2 z3
        exact False.elim hF
    · have hF := hF.2 z2
      exact False.elim hF
  · have hF := hF.2 z1
    exact False.elim hF
def W_J7_fill_fda19_C (ad : Nat → Nat) (Q : Int → MM → Prop) (av : List Value) (M : MM) : Prop := ∃ (p1 : Nat) (np1 : Nat) (p2 : Int) (p3 : Int) (p4 : Int), av = [.ref (ad p1), .int (Ii p2), .int (Ii p3), .int (Ii p4)] ∧ ksC[p1]? = some (0, np1) ∧ np1 < 2147483648 ∧ ri_ p2 ∧ ri_ p3 ∧ ri_ p4 ∧ w_J7_fill_fda19_C p1 np1 Q p2 p3 p4 M
set_option maxHeartbeats 4000000 in
set_option maxRecDepth 100000 in
theorem k_J7_fill_fda19_C_b10 {l : Launch} {D : va_G} {cy : Nat → ClassId} {ad : Nat → Nat} {Q : Int → MM → Prop} {J : Nat → List (Nat × Value) → List Value → MM → Prop} (hin : jIn ad ksC.length) {p1 np1 : Nat} (hp1 : ksC[p1]? = some (0, np1)) (lp1 : np1 < 2147483648) (hJ : jOk l D vwCl (tyC cy) cy ad ftC ksC (XtC ad) Om RJ7 cJ7_fill_fda19 5 0 ({ frames := 1, cells := 0, slots := 0, locals := 22 } : Room) Q J)  : ∀ (x2 x3 x4 : Int) (M : MM), ri_ x2 → ri_ x3 → ri_ x4 → w_J7_fill_fda19_C_b10 p1 np1 Q  x2 x3 x4 M → J 10 [(0, .ref (ad p1)), (2, .int (Ii x2)), (3, .int (Ii x3)), (4, .int (Ii x4))] [] M := by
  have H9 : ∀ (n : Nat) (x2 x3 x4 : Int) (M : MM), ri_ x2 → ri_ x3 → ri_ x4 → jit (fun _ _ _ _ => False) (wb_J7_fill_fda19_C_b10 p1 np1 Q ) n x2 x3 x4 M → J 10 [(0, .ref (ad p1)), (2, .int (Ii x2)), (3, .int (Ii x3)), (4, .int (Ii x4))] [] M := by
    intro n
    induction n with
    | zero => intro x2 x3 x4 M gx2 gx3 gx4 hF; exact False.elim hF
    | succ n ih =>
    intro x2 x3 x4 M gx2 gx3 gx4 hF
    have hF : wb_J7_fill_fda19_C_b10 p1 np1 Q  (jit (fun _ _ _ _ => False) (wb_J7_fill_fda19_C_b10 p1 np1 Q ) n) x2 x3 x4 M := hF
    unfold wb_J7_fill_fda19_C_b10 at hF
    refine j_iload hJ dJ7_fill_fda19_10 3 rfl ?_
    refine j_iload_n hJ dJ7_fill_fda19_12 rfl 1 rfl ?_
    refine j_icmp_ge hJ 27 gx4 gx2 dJ7_fill_fda19_13 (by decide) (fun z1 => ?_) (fun z1 => ?_)
    · have hF := hF.1 z1
      exact j_vret hJ rfl dJ7_fill_fda19_27 hF
    · have hF := hF.2 z1
      refine j_aload_n hJ dJ7_fill_fda19_16 rfl 0 rfl ?_
      refine j_iload hJ dJ7_fill_fda19_17 3 rfl ?_
      refine j_iload_n hJ dJ7_fill_fda19_19 rfl 2 rfl ?_
      refine j_iast hJ gx4 gx3 hp1 hF.1 hF.2.1 dJ7_fill_fda19_20 (fun M2 eM2 => ?_)
      have hF := hF.2.2 M2 eM2
      refine j_iinc (lv' := [(4, .int (Ii (x4 + 1))), (0, .ref (ad p1)), (2, .int (Ii x2)), (3, .int (Ii x3))]) (k := 3) hJ dJ7_fill_fda19_21 rfl (by decide) rfl ?_
      have g3 := hF.1; have hF := hF.2
      refine j_goto hJ 10 dJ7_fill_fda19_24 (by decide) ?_
      exact j_sub hJ [1, 2, 3, 0] rfl (ih x2 x3 (x4 + 1) _ gx2 gx3 g3 hF)
  intro x2 x3 x4 M gx2 gx3 gx4 hF
  obtain ⟨n, hF⟩ := hF
  exact H9 n x2 x3 x4 M gx2 gx3 gx4 hF
set_option maxHeartbeats 4000000 in
set_option maxRecDepth 100000 in
theorem c_J7_fill_fda19_C {l : Launch} {D : va_G} {cy : Nat → ClassId} {ad : Nat → Nat} (hin : jIn ad ksC.length) : jCN l D vwCl (tyC cy) cy ad ftC ksC (XtC ad) yJ7_fill_fda19 (.code yJ7_fill_fda19 cJ7_fill_fda19 5 none :: Om) ({ frames := 1, cells := 0, slots := 0, locals := 22 } : Room) 0 (W_J7_fill_fda19_C ad) := by
  refine jCN_of (y := yJ7_fill_fda19) (cc := cJ7_fill_fda19) (nL := 5) (rk := 0) (rm := ({ frames := 1, cells := 0, slots := 0, locals := 22 } : Room)) (own := RJ7) (tyC_ok cy) hin (XtC_ok ad) Om_good (by decide) rfl ?_
  intro Q av M hF
  obtain ⟨p1, np1, p2, p3, p4, rfl, hp1, lp1, gp2, gp3, gp4, hF⟩ := hF
  refine ⟨Nat.le_of_ble_eq_true rfl, fun J hJ => ?_⟩
  show J 0 [(0, .ref (ad p1)), (1, .int (Ii p2)), (2, .int (Ii p3)), (3, .int (Ii p4))] [] M
  unfold w_J7_fill_fda19_C at hF
  refine j_aload_n hJ dJ7_fill_fda19_0 rfl 0 rfl ?_
  refine j_alen0 hJ hp1 dJ7_fill_fda19_1 ?_
  refine j_iload_n hJ dJ7_fill_fda19_2 rfl 1 rfl ?_
  refine j_iload_n hJ dJ7_fill_fda19_3 rfl 2 rfl ?_
  refine j_callSv hJ (c_J7_rangeCheck_23922_C (l := l) (D := D) (cy := cy) (ad := ad) hin) rfl om_211 ⟨rfl, rfl, Nat.le_of_ble_eq_true rfl, Nat.le_of_ble_eq_true rfl⟩ [.int (Ii (np1 : Int)), .int (Ii p2), .int (Ii p3)] mv_J7_13 hd_J7_rangeCheck_23922 rfl (Nat.le_of_ble_eq_true rfl) dJ7_fill_fda19_4 ⟨(np1 : Int), p2, p3, rfl, (by unfold ri_; omega), gp2, gp3, hF⟩ (fun M2 qM2 => ?_)
  have hF := qM2
  refine j_iload_n hJ dJ7_fill_fda19_7 rfl 1 rfl ?_
  refine j_istore (lv' := [(4, .int (Ii p2)), (0, .ref (ad p1)), (1, .int (Ii p2)), (2, .int (Ii p3)), (3, .int (Ii p4))]) hJ dJ7_fill_fda19_8 (by decide) rfl ?_
  exact j_sub hJ [1, 3, 4, 0] rfl (k_J7_fill_fda19_C_b10 hin hp1 lp1 hJ  p3 p4 p2 _ gp3 gp4 gp2 hF)
def W_X2_clearMarks (ad : Nat → Nat) (Q : Int → MM → Prop) (av : List Value) (M : MM) : Prop := av = [.ref (ad 26)] ∧ w_X2_clearMarks  Q  M
set_option maxHeartbeats 4000000 in
set_option maxRecDepth 100000 in
theorem c_X2_clearMarks {l : Launch} {D : va_G} {cy : Nat → ClassId} {ad : Nat → Nat} (hin : jIn ad ksC.length) : jCN l D vwCl (tyC cy) cy ad ftC ksC (XtC ad) yX2_clearMarks (.code yX2_clearMarks cX2_clearMarks 1 none :: Om) ({ frames := 2, cells := 0, slots := 0, locals := 46 } : Room) 0 (W_X2_clearMarks ad) := by
  refine jCN_of (y := yX2_clearMarks) (cc := cX2_clearMarks) (nL := 1) (rk := 0) (rm := ({ frames := 2, cells := 0, slots := 0, locals := 46 } : Room)) (own := RX2) (tyC_ok cy) hin (XtC_ok ad) Om_good (by decide) rfl ?_
  intro Q av M hF
  obtain ⟨rfl, hF⟩ := hF
  refine ⟨Nat.le_of_ble_eq_true rfl, fun J hJ => ?_⟩
  show J 0 [(0, .ref (ad 26))] [] M
  unfold w_X2_clearMarks at hF
  refine j_aload_n hJ dX2_clearMarks_0 rfl 0 rfl ?_
  refine j_gr (e := 35) hJ kC_26 fC_5_13 fl_X2_44 dX2_clearMarks_1 rfl ?_
  refine j_iconst hJ dX2_clearMarks_4 ?_
  refine j_aload_n hJ dX2_clearMarks_5 rfl 0 rfl ?_
  refine j_gi hJ kC_26 fC_5_1 rfl fl_X2_47 dX2_clearMarks_6 (fun v1 ev1 gv1 => ?_)
  have hF := hF v1 ev1 gv1
  refine j_iconst hJ dX2_clearMarks_9 ?_
  refine j_callSv hJ (c_J7_fill_fda19_C (l := l) (D := D) (cy := cy) (ad := ad) hin) rfl om_214 ⟨rfl, rfl, Nat.le_of_ble_eq_true rfl, Nat.le_of_ble_eq_true rfl⟩ [.ref (ad 35), .int (Ii 0), .int (Ii v1), .int (Ii (-1))] mv_X2_109 hd_J7_fill_fda19 rfl (Nat.le_of_ble_eq_true rfl) dX2_clearMarks_10 ⟨35, 400, 0, v1, (-1), rfl, kC_35, (by decide), rk_0, gv1, rk_m1, hF⟩ (fun M3 qM3 => ?_)
  have hF := qM3
  exact j_vret hJ rfl dX2_clearMarks_13 hF
def W_X2_meet (ad : Nat → Nat) (Q : Int → MM → Prop) (av : List Value) (M : MM) : Prop := ∃ (p1 : Int) (p2 : Int), av = [.ref (ad 26), .long (Ll p1), .int (Ii p2)] ∧ rl_ p1 ∧ ri_ p2 ∧ w_X2_meet  Q p1 p2 M
set_option maxHeartbeats 4000000 in
set_option maxRecDepth 100000 in
theorem c_X2_meet {l : Launch} {D : va_G} {cy : Nat → ClassId} {ad : Nat → Nat} (hin : jIn ad ksC.length) : jCN l D vwCl (tyC cy) cy ad ftC ksC (XtC ad) yX2_meet (.code yX2_meet cX2_meet 4 (some .int) :: Om) ({ frames := 0, cells := 0, slots := 0, locals := 0 } : Room) 1 (W_X2_meet ad) := by
  refine jCN_of (y := yX2_meet) (cc := cX2_meet) (nL := 4) (rk := 1) (rm := ({ frames := 0, cells := 0, slots := 0, locals := 0 } : Room)) (own := RX2) (tyC_ok cy) hin (XtC_ok ad) Om_good (by decide) rfl ?_
  intro Q av M hF
  obtain ⟨p1, p2, rfl, gp1, gp2, hF⟩ := hF
  refine ⟨Nat.le_of_ble_eq_true rfl, fun J hJ => ?_⟩
  show J 0 [(0, .ref (ad 26)), (1, .long (Ll p1)), (3, .int (Ii p2))] [] M
  unfold w_X2_meet at hF
  refine j_lload_n hJ dX2_meet_0 rfl 1 rfl ?_
  refine j_lconst (x := 0) hJ dX2_meet_1 rfl ?_
  refine j_lcmp_lt hJ 27 gp1 lkm_0 dX2_meet_2 dX2_meet_3 (by decide) (fun z1 => ?_) (fun z1 => ?_)
  · have hF := hF.1 z1
    refine j_iload_n hJ dX2_meet_27 rfl 2 rfl ?_
    exact j_iret hJ rfl gp2 dX2_meet_28 hF
  · have hF := hF.2 z1
    refine j_lload_n hJ dX2_meet_6 rfl 1 rfl ?_
    refine j_aload_n hJ dX2_meet_7 rfl 0 rfl ?_
    refine j_gi hJ kC_26 fC_5_1 rfl fl_X2_47 dX2_meet_8 (fun v2 ev2 gv2 => ?_)
    have hF := hF v2 ev2 gv2
    refine j_i2l hJ gv2 dX2_meet_11 ?_
    refine j_lcmp_ge hJ 27 gp1 (rl_ri gv2) dX2_meet_12 dX2_meet_13 (by decide) (fun z3 => ?_) (fun z3 => ?_)
    · have hF := hF.1 z3
      refine j_iload_n hJ dX2_meet_27 rfl 2 rfl ?_
      exact j_iret hJ rfl gp2 dX2_meet_28 hF
    · have hF := hF.2 z3
      refine j_aload_n hJ dX2_meet_16 rfl 0 rfl ?_
      refine j_gr (e := 35) hJ kC_26 fC_5_13 fl_X2_44 dX2_meet_17 rfl ?_
      refine j_lload_n hJ dX2_meet_20 rfl 1 rfl ?_
      refine j_l2i hJ dX2_meet_21 ?_
      have g4 := hF.1; have hF := hF.2
      refine j_iald hJ g4 kC_35 hF.1 hF.2.1 dX2_meet_22 (fun v5 ev5 gv5 => ?_)
      have hF := hF.2.2 v5 ev5 gv5
      refine j_iconst hJ dX2_meet_23 ?_
      refine j_icmp_eq hJ 29 gv5 rk_m1 dX2_meet_24 (by decide) (fun z6 => ?_) (fun z6 => ?_)
      · have hF := hF.1 z6
        refine j_aload_n hJ dX2_meet_29 rfl 0 rfl ?_
        refine j_gr (e := 35) hJ kC_26 fC_5_13 fl_X2_44 dX2_meet_30 rfl ?_
        refine j_lload_n hJ dX2_meet_33 rfl 1 rfl ?_
        refine j_l2i hJ dX2_meet_34 ?_
        have g7 := hF.1; have hF := hF.2
        refine j_iload_n hJ dX2_meet_35 rfl 2 rfl ?_
        refine j_iast hJ g7 gp2 kC_35 hF.1 hF.2.1 dX2_meet_36 (fun M8 eM8 => ?_)
        have hF := hF.2.2 M8 eM8
        refine j_aload_n hJ dX2_meet_37 rfl 0 rfl ?_
        refine j_gr (e := 34) hJ kC_26 fC_5_12 fl_X2_41 dX2_meet_38 rfl ?_
        refine j_iload_n hJ dX2_meet_41 rfl 2 rfl ?_
        refine j_lload_n hJ dX2_meet_42 rfl 1 rfl ?_
        refine j_l2i hJ dX2_meet_43 ?_
        have g9 := hF.1; have hF := hF.2
        refine j_iast hJ gp2 g9 kC_34 hF.1 hF.2.1 dX2_meet_44 (fun M10 eM10 => ?_)
        have hF := hF.2.2 M10 eM10
        refine j_iload_n hJ dX2_meet_45 rfl 2 rfl ?_
        refine j_iconst hJ dX2_meet_46 ?_
        refine j_iadd hJ dX2_meet_47 ?_
        have g11 := hF.1; have hF := hF.2
        exact j_iret hJ rfl g11 dX2_meet_48 hF
      · have hF := hF.2 z6
        refine j_iload_n hJ dX2_meet_27 rfl 2 rfl ?_
        exact j_iret hJ rfl gp2 dX2_meet_28 hF
def W_X2_meetRoots (ad : Nat → Nat) (Q : Int → MM → Prop) (av : List Value) (M : MM) : Prop := av = [.ref (ad 26)] ∧ w_X2_meetRoots  Q  M
set_option maxHeartbeats 4000000 in
set_option maxRecDepth 100000 in
theorem k_X2_meetRoots_b67 {l : Launch} {D : va_G} {cy : Nat → ClassId} {ad : Nat → Nat} {Q : Int → MM → Prop} {J : Nat → List (Nat × Value) → List Value → MM → Prop} (hin : jIn ad ksC.length)   (hJ : jOk l D vwCl (tyC cy) cy ad ftC ksC (XtC ad) Om RX2 cX2_meetRoots 3 1 ({ frames := 1, cells := 0, slots := 0, locals := 23 } : Room) Q J) {K33 : Int → Int → MM → Prop} (hK33 : ∀ (x1 x2 : Int) (M : MM), ri_ x1 → ri_ x2 → K33 x1 x2 M → J 33 [(0, .ref (ad 26)), (1, .int (Ii x1)), (2, .int (Ii x2))] [] M) : ∀ (x1 x2 : Int) (M : MM), ri_ x1 → ri_ x2 → w_X2_meetRoots_b67  Q K33 x1 x2 M → J 67 [(0, .ref (ad 26)), (1, .int (Ii x1)), (2, .int (Ii x2))] [] M := by
  intro x1 x2 M gx1 gx2 hF
  unfold w_X2_meetRoots_b67 at hF
  refine j_iinc (lv' := [(2, .int (Ii (x2 + 1))), (0, .ref (ad 26)), (1, .int (Ii x1))]) (k := 2) hJ dX2_meetRoots_67 rfl (by decide) rfl ?_
  have g1 := hF.1; have hF := hF.2
  refine j_goto hJ 33 dX2_meetRoots_70 (by decide) ?_
  exact j_sub hJ [1, 2, 0] rfl (hK33 x1 (x2 + 1) _ gx1 g1 hF)
set_option maxHeartbeats 4000000 in
set_option maxRecDepth 100000 in
theorem k_X2_meetRoots_b33 {l : Launch} {D : va_G} {cy : Nat → ClassId} {ad : Nat → Nat} {Q : Int → MM → Prop} {J : Nat → List (Nat × Value) → List Value → MM → Prop} (hin : jIn ad ksC.length)   (hJ : jOk l D vwCl (tyC cy) cy ad ftC ksC (XtC ad) Om RX2 cX2_meetRoots 3 1 ({ frames := 1, cells := 0, slots := 0, locals := 23 } : Room) Q J)  : ∀ (x1 x2 : Int) (M : MM), ri_ x1 → ri_ x2 → w_X2_meetRoots_b33  Q  x1 x2 M → J 33 [(0, .ref (ad 26)), (1, .int (Ii x1)), (2, .int (Ii x2))] [] M := by
  have H9 : ∀ (n : Nat) (x1 x2 : Int) (M : MM), ri_ x1 → ri_ x2 → jit (fun _ _ _ => False) (wb_X2_meetRoots_b33  Q ) n x1 x2 M → J 33 [(0, .ref (ad 26)), (1, .int (Ii x1)), (2, .int (Ii x2))] [] M := by
    intro n
    induction n with
    | zero => intro x1 x2 M gx1 gx2 hF; exact False.elim hF
    | succ n ih =>
    intro x1 x2 M gx1 gx2 hF
    have hF : wb_X2_meetRoots_b33  Q  (jit (fun _ _ _ => False) (wb_X2_meetRoots_b33  Q ) n) x1 x2 M := hF
    unfold wb_X2_meetRoots_b33 at hF
    refine j_iload_n hJ dX2_meetRoots_33 rfl 2 rfl ?_
    refine j_aload_n hJ dX2_meetRoots_34 rfl 0 rfl ?_
    refine j_ga hJ kC_26 fC_5_0 fl_X2_9 dX2_meetRoots_35 ?_
    refine j_callVi hJ (c_X10_ownFields (l := l) (D := D) (cy := cy) (ad := ad) hin) rfl om_198 ⟨rfl, rfl, Nat.le_of_ble_eq_true rfl, Nat.le_of_ble_eq_true rfl⟩ [] mv_X2_99 hd_X10_ownFieldsv kC_8 rfl rfl rfl (Nat.le_of_ble_eq_true rfl) dX2_meetRoots_38 ⟨rfl, hF⟩ (fun r1 M2 gr1 qM2 => ?_)
    have hF := qM2 gr1
    refine j_icmp_ge hJ 73 gx2 gr1 dX2_meetRoots_41 (by decide) (fun z3 => ?_) (fun z3 => ?_)
    · have hF := hF.1 z3
      refine j_iload_n hJ dX2_meetRoots_73 rfl 1 rfl ?_
      exact j_iret hJ rfl gx1 dX2_meetRoots_74 hF
    · have hF := hF.2 z3
      refine j_aload_n hJ dX2_meetRoots_44 rfl 0 rfl ?_
      refine j_ga hJ kC_26 fC_5_0 fl_X2_9 dX2_meetRoots_45 ?_
      refine j_iload_n hJ dX2_meetRoots_48 rfl 2 rfl ?_
      refine j_callVz hJ (c_X10_isLinkStatic (l := l) (D := D) (cy := cy) (ad := ad) hin) rfl om_202 ⟨rfl, rfl, Nat.le_of_ble_eq_true rfl, Nat.le_of_ble_eq_true rfl⟩ [.int (Ii x2)] mv_X2_103 hd_X10_isLinkStaticv kC_8 rfl rfl rfl (Nat.le_of_ble_eq_true rfl) dX2_meetRoots_49 ⟨x2, rfl, gx2, hF⟩ (fun r4 M5 gr4 qM5 => ?_)
      have hF := qM5 gr4
      refine j_if_eq hJ 67 (jz_ri gr4) dX2_meetRoots_52 (by decide) (fun z6 => ?_) (fun z6 => ?_)
      · have hF := hF.1 z6
        exact j_sub hJ [0, 1, 2] rfl (k_X2_meetRoots_b67 hin  hJ ih x1 x2 _ gx1 gx2 hF)
      · have hF := hF.2 z6
        refine j_aload_n hJ dX2_meetRoots_55 rfl 0 rfl ?_
        refine j_aload_n hJ dX2_meetRoots_56 rfl 0 rfl ?_
        refine j_gr (e := 32) hJ kC_26 fC_5_9 fl_X2_35 dX2_meetRoots_57 rfl ?_
        refine j_iload_n hJ dX2_meetRoots_60 rfl 2 rfl ?_
        refine j_lald hJ gx2 kC_32 hF.1 hF.2.1 dX2_meetRoots_61 (fun v7 ev7 gv7 => ?_)
        have hF := hF.2.2 v7 ev7 gv7
        refine j_iload_n hJ dX2_meetRoots_62 rfl 1 rfl ?_
        refine j_callVi hJ (c_X2_meet (l := l) (D := D) (cy := cy) (ad := ad) hin) rfl om_217 ⟨rfl, rfl, Nat.le_of_ble_eq_true rfl, Nat.le_of_ble_eq_true rfl⟩ [.long (Ll v7), .int (Ii x1)] mv_X2_115 hd_X2_meetv kC_26 rfl rfl rfl (Nat.le_of_ble_eq_true rfl) dX2_meetRoots_63 ⟨v7, x1, rfl, gv7, gx1, hF⟩ (fun r8 M9 gr8 qM9 => ?_)
        have hF := qM9 gr8
        refine j_istore_n (lv' := [(1, .int (Ii r8)), (0, .ref (ad 26)), (2, .int (Ii x2))]) hJ dX2_meetRoots_66 rfl (by decide) rfl ?_
        exact j_sub hJ [1, 0, 2] rfl (k_X2_meetRoots_b67 hin  hJ ih r8 x2 _ gr8 gx2 hF)
  intro x1 x2 M gx1 gx2 hF
  obtain ⟨n, hF⟩ := hF
  exact H9 n x1 x2 M gx1 gx2 hF
set_option maxHeartbeats 4000000 in
set_option maxRecDepth 100000 in
theorem k_X2_meetRoots_b4 {l : Launch} {D : va_G} {cy : Nat → ClassId} {ad : Nat → Nat} {Q : Int → MM → Prop} {J : Nat → List (Nat × Value) → List Value → MM → Prop} (hin : jIn ad ksC.length)   (hJ : jOk l D vwCl (tyC cy) cy ad ftC ksC (XtC ad) Om RX2 cX2_meetRoots 3 1 ({ frames := 1, cells := 0, slots := 0, locals := 23 } : Room) Q J)  : ∀ (x1 x2 : Int) (M : MM), ri_ x1 → ri_ x2 → w_X2_meetRoots_b4  Q  x1 x2 M → J 4 [(0, .ref (ad 26)), (1, .int (Ii x1)), (2, .int (Ii x2))] [] M := by
  have H9 : ∀ (n : Nat) (x1 x2 : Int) (M : MM), ri_ x1 → ri_ x2 → jit (fun _ _ _ => False) (wb_X2_meetRoots_b4  Q ) n x1 x2 M → J 4 [(0, .ref (ad 26)), (1, .int (Ii x1)), (2, .int (Ii x2))] [] M := by
    intro n
    induction n with
    | zero => intro x1 x2 M gx1 gx2 hF; exact False.elim hF
    | succ n ih =>
    intro x1 x2 M gx1 gx2 hF
    have hF : wb_X2_meetRoots_b4  Q  (jit (fun _ _ _ => False) (wb_X2_meetRoots_b4  Q ) n) x1 x2 M := hF
    unfold wb_X2_meetRoots_b4 at hF
    refine j_iload_n hJ dX2_meetRoots_4 rfl 2 rfl ?_
    refine j_aload_n hJ dX2_meetRoots_5 rfl 0 rfl ?_
    refine j_gi hJ kC_26 fC_5_11 rfl fl_X2_89 dX2_meetRoots_6 (fun v1 ev1 gv1 => ?_)
    have hF := hF v1 ev1 gv1
    refine j_icmp_ge hJ 31 gx2 gv1 dX2_meetRoots_9 (by decide) (fun z2 => ?_) (fun z2 => ?_)
    · have hF := hF.1 z2
      refine j_iconst hJ dX2_meetRoots_31 ?_
      refine j_istore_n (lv' := [(2, .int (Ii 0)), (0, .ref (ad 26)), (1, .int (Ii x1))]) hJ dX2_meetRoots_32 rfl (by decide) rfl ?_
      exact j_sub hJ [1, 2, 0] rfl (k_X2_meetRoots_b33 hin  hJ  x1 0 _ gx1 rk_0 hF)
    · have hF := hF.2 z2
      refine j_aload_n hJ dX2_meetRoots_12 rfl 0 rfl ?_
      refine j_aload_n hJ dX2_meetRoots_13 rfl 0 rfl ?_
      refine j_gr (e := 33) hJ kC_26 fC_5_10 fl_X2_38 dX2_meetRoots_14 rfl ?_
      refine j_iload_n hJ dX2_meetRoots_17 rfl 2 rfl ?_
      refine j_iald hJ gx2 kC_33 hF.1 hF.2.1 dX2_meetRoots_18 (fun v3 ev3 gv3 => ?_)
      have hF := hF.2.2 v3 ev3 gv3
      refine j_i2l hJ gv3 dX2_meetRoots_19 ?_
      refine j_iload_n hJ dX2_meetRoots_20 rfl 1 rfl ?_
      refine j_callVi hJ (c_X2_meet (l := l) (D := D) (cy := cy) (ad := ad) hin) rfl om_217 ⟨rfl, rfl, Nat.le_of_ble_eq_true rfl, Nat.le_of_ble_eq_true rfl⟩ [.long (Ll v3), .int (Ii x1)] mv_X2_115 hd_X2_meetv kC_26 rfl rfl rfl (Nat.le_of_ble_eq_true rfl) dX2_meetRoots_21 ⟨v3, x1, rfl, (rl_ri gv3), gx1, hF⟩ (fun r4 M5 gr4 qM5 => ?_)
      have hF := qM5 gr4
      refine j_istore_n (lv' := [(1, .int (Ii r4)), (0, .ref (ad 26)), (2, .int (Ii x2))]) hJ dX2_meetRoots_24 rfl (by decide) rfl ?_
      refine j_iinc (lv' := [(2, .int (Ii (x2 + 1))), (1, .int (Ii r4)), (0, .ref (ad 26))]) (k := 2) hJ dX2_meetRoots_25 rfl (by decide) rfl ?_
      have g6 := hF.1; have hF := hF.2
      refine j_goto hJ 4 dX2_meetRoots_28 (by decide) ?_
      exact j_sub hJ [2, 1, 0] rfl (ih r4 (x2 + 1) _ gr4 g6 hF)
  intro x1 x2 M gx1 gx2 hF
  obtain ⟨n, hF⟩ := hF
  exact H9 n x1 x2 M gx1 gx2 hF
set_option maxHeartbeats 4000000 in
set_option maxRecDepth 100000 in
theorem c_X2_meetRoots {l : Launch} {D : va_G} {cy : Nat → ClassId} {ad : Nat → Nat} (hin : jIn ad ksC.length) : jCN l D vwCl (tyC cy) cy ad ftC ksC (XtC ad) yX2_meetRoots (.code yX2_meetRoots cX2_meetRoots 3 (some .int) :: Om) ({ frames := 1, cells := 0, slots := 0, locals := 23 } : Room) 1 (W_X2_meetRoots ad) := by
  refine jCN_of (y := yX2_meetRoots) (cc := cX2_meetRoots) (nL := 3) (rk := 1) (rm := ({ frames := 1, cells := 0, slots := 0, locals := 23 } : Room)) (own := RX2) (tyC_ok cy) hin (XtC_ok ad) Om_good (by decide) rfl ?_
  intro Q av M hF
  obtain ⟨rfl, hF⟩ := hF
  refine ⟨Nat.le_of_ble_eq_true rfl, fun J hJ => ?_⟩
  show J 0 [(0, .ref (ad 26))] [] M
  unfold w_X2_meetRoots at hF
  refine j_iconst hJ dX2_meetRoots_0 ?_
  refine j_istore_n (lv' := [(1, .int (Ii 0)), (0, .ref (ad 26))]) hJ dX2_meetRoots_1 rfl (by decide) rfl ?_
  refine j_iconst hJ dX2_meetRoots_2 ?_
  refine j_istore_n (lv' := [(2, .int (Ii 0)), (1, .int (Ii 0)), (0, .ref (ad 26))]) hJ dX2_meetRoots_3 rfl (by decide) rfl ?_
  exact j_sub hJ [2, 1, 0] rfl (k_X2_meetRoots_b4 hin  hJ  0 0 _ rk_0 rk_0 hF)
def W_X2_meetLinks (ad : Nat → Nat) (Q : Int → MM → Prop) (av : List Value) (M : MM) : Prop := ∃ (p1 : Int) (p2 : Int), av = [.ref (ad 26), .int (Ii p1), .int (Ii p2)] ∧ ri_ p1 ∧ ri_ p2 ∧ w_X2_meetLinks  Q p1 p2 M
set_option maxHeartbeats 4000000 in
set_option maxRecDepth 100000 in
theorem k_X2_meetLinks_b54 {l : Launch} {D : va_G} {cy : Nat → ClassId} {ad : Nat → Nat} {Q : Int → MM → Prop} {J : Nat → List (Nat × Value) → List Value → MM → Prop} (hin : jIn ad ksC.length)   (hJ : jOk l D vwCl (tyC cy) cy ad ftC ksC (XtC ad) Om RX2 cX2_meetLinks 6 1 ({ frames := 3, cells := 0, slots := 0, locals := 63 } : Room) Q J) {K24 : Int → Int → Int → MM → Prop} (hK24 : ∀ (x3 x4 x5 : Int) (M : MM), ri_ x3 → ri_ x4 → ri_ x5 → K24 x3 x4 x5 M → J 24 [(0, .ref (ad 26)), (3, .int (Ii x3)), (4, .int (Ii x4)), (5, .int (Ii x5))] [] M) : ∀ (x3 x4 x5 : Int) (M : MM), ri_ x3 → ri_ x4 → ri_ x5 → w_X2_meetLinks_b54  Q K24 x3 x4 x5 M → J 54 [(0, .ref (ad 26)), (3, .int (Ii x3)), (4, .int (Ii x4)), (5, .int (Ii x5))] [] M := by
  intro x3 x4 x5 M gx3 gx4 gx5 hF
  unfold w_X2_meetLinks_b54 at hF
  refine j_iinc (lv' := [(5, .int (Ii (x5 + 1))), (0, .ref (ad 26)), (3, .int (Ii x3)), (4, .int (Ii x4))]) (k := 3) hJ dX2_meetLinks_54 rfl (by decide) rfl ?_
  have g1 := hF.1; have hF := hF.2
  refine j_goto hJ 24 dX2_meetLinks_57 (by decide) ?_
  exact j_sub hJ [1, 2, 3, 0] rfl (hK24 x3 x4 (x5 + 1) _ gx3 gx4 g1 hF)
set_option maxHeartbeats 4000000 in
set_option maxRecDepth 100000 in
theorem k_X2_meetLinks_b24 {l : Launch} {D : va_G} {cy : Nat → ClassId} {ad : Nat → Nat} {Q : Int → MM → Prop} {J : Nat → List (Nat × Value) → List Value → MM → Prop} (hin : jIn ad ksC.length)   (hJ : jOk l D vwCl (tyC cy) cy ad ftC ksC (XtC ad) Om RX2 cX2_meetLinks 6 1 ({ frames := 3, cells := 0, slots := 0, locals := 63 } : Room) Q J)  : ∀ (x3 x4 x5 : Int) (M : MM), ri_ x3 → ri_ x4 → ri_ x5 → w_X2_meetLinks_b24  Q  x3 x4 x5 M → J 24 [(0, .ref (ad 26)), (3, .int (Ii x3)), (4, .int (Ii x4)), (5, .int (Ii x5))] [] M := by
  have H9 : ∀ (n : Nat) (x3 x4 x5 : Int) (M : MM), ri_ x3 → ri_ x4 → ri_ x5 → jit (fun _ _ _ _ => False) (wb_X2_meetLinks_b24  Q ) n x3 x4 x5 M → J 24 [(0, .ref (ad 26)), (3, .int (Ii x3)), (4, .int (Ii x4)), (5, .int (Ii x5))] [] M := by
    intro n
    induction n with
    | zero => intro x3 x4 x5 M gx3 gx4 gx5 hF; exact False.elim hF
    | succ n ih =>
    intro x3 x4 x5 M gx3 gx4 gx5 hF
    have hF : wb_X2_meetLinks_b24  Q  (jit (fun _ _ _ _ => False) (wb_X2_meetLinks_b24  Q ) n) x3 x4 x5 M := hF
    unfold wb_X2_meetLinks_b24 at hF
    refine j_iload hJ dX2_meetLinks_24 3 rfl ?_
    refine j_iload hJ dX2_meetLinks_26 2 rfl ?_
    refine j_icmp_ge hJ 60 gx5 gx4 dX2_meetLinks_28 (by decide) (fun z1 => ?_) (fun z1 => ?_)
    · have hF := hF.1 z1
      refine j_iload_n hJ dX2_meetLinks_60 rfl 1 rfl ?_
      exact j_iret hJ rfl gx3 dX2_meetLinks_61 hF
    · have hF := hF.2 z1
      refine j_aload_n hJ dX2_meetLinks_31 rfl 0 rfl ?_
      refine j_gr (e := 31) hJ kC_26 fC_5_8 fl_X2_29 dX2_meetLinks_32 rfl ?_
      refine j_iload hJ dX2_meetLinks_35 3 rfl ?_
      refine j_zald hJ gx5 kC_31 hF.1 hF.2.1 dX2_meetLinks_37 (fun v2 ev2 gv2 => ?_)
      have hF := hF.2.2 v2 ev2 gv2
      refine j_if_eq hJ 54 (jz_ri gv2) dX2_meetLinks_38 (by decide) (fun z3 => ?_) (fun z3 => ?_)
      · have hF := hF.1 z3
        exact j_sub hJ [0, 1, 2, 3] rfl (k_X2_meetLinks_b54 hin  hJ ih x3 x4 x5 _ gx3 gx4 gx5 hF)
      · have hF := hF.2 z3
        refine j_aload_n hJ dX2_meetLinks_41 rfl 0 rfl ?_
        refine j_aload_n hJ dX2_meetLinks_42 rfl 0 rfl ?_
        refine j_gr (e := 30) hJ kC_26 fC_5_7 fl_X2_25 dX2_meetLinks_43 rfl ?_
        refine j_iload hJ dX2_meetLinks_46 3 rfl ?_
        refine j_lald hJ gx5 kC_30 hF.1 hF.2.1 dX2_meetLinks_48 (fun v4 ev4 gv4 => ?_)
        have hF := hF.2.2 v4 ev4 gv4
        refine j_iload_n hJ dX2_meetLinks_49 rfl 1 rfl ?_
        refine j_callVi hJ (c_X2_meet (l := l) (D := D) (cy := cy) (ad := ad) hin) rfl om_217 ⟨rfl, rfl, Nat.le_of_ble_eq_true rfl, Nat.le_of_ble_eq_true rfl⟩ [.long (Ll v4), .int (Ii x3)] mv_X2_115 hd_X2_meetv kC_26 rfl rfl rfl (Nat.le_of_ble_eq_true rfl) dX2_meetLinks_50 ⟨v4, x3, rfl, gv4, gx3, hF⟩ (fun r5 M6 gr5 qM6 => ?_)
        have hF := qM6 gr5
        refine j_istore_n (lv' := [(3, .int (Ii r5)), (0, .ref (ad 26)), (4, .int (Ii x4)), (5, .int (Ii x5))]) hJ dX2_meetLinks_53 rfl (by decide) rfl ?_
        exact j_sub hJ [1, 0, 2, 3] rfl (k_X2_meetLinks_b54 hin  hJ ih r5 x4 x5 _ gr5 gx4 gx5 hF)
  intro x3 x4 x5 M gx3 gx4 gx5 hF
  obtain ⟨n, hF⟩ := hF
  exact H9 n x3 x4 x5 M gx3 gx4 gx5 hF
set_option maxHeartbeats 4000000 in
set_option maxRecDepth 100000 in
theorem c_X2_meetLinks {l : Launch} {D : va_G} {cy : Nat → ClassId} {ad : Nat → Nat} (hin : jIn ad ksC.length) : jCN l D vwCl (tyC cy) cy ad ftC ksC (XtC ad) yX2_meetLinks (.code yX2_meetLinks cX2_meetLinks 6 (some .int) :: Om) ({ frames := 3, cells := 0, slots := 0, locals := 63 } : Room) 1 (W_X2_meetLinks ad) := by
  refine jCN_of (y := yX2_meetLinks) (cc := cX2_meetLinks) (nL := 6) (rk := 1) (rm := ({ frames := 3, cells := 0, slots := 0, locals := 63 } : Room)) (own := RX2) (tyC_ok cy) hin (XtC_ok ad) Om_good (by decide) rfl ?_
  intro Q av M hF
  obtain ⟨p1, p2, rfl, gp1, gp2, hF⟩ := hF
  refine ⟨Nat.le_of_ble_eq_true rfl, fun J hJ => ?_⟩
  show J 0 [(0, .ref (ad 26)), (1, .int (Ii p1)), (2, .int (Ii p2))] [] M
  unfold w_X2_meetLinks at hF
  refine j_iload_n hJ dX2_meetLinks_0 rfl 2 rfl ?_
  refine j_istore_n (lv' := [(3, .int (Ii p2)), (0, .ref (ad 26)), (1, .int (Ii p1)), (2, .int (Ii p2))]) hJ dX2_meetLinks_1 rfl (by decide) rfl ?_
  refine j_aload_n hJ dX2_meetLinks_2 rfl 1 rfl ?_
  refine j_gr (e := 29) hJ kC_26 fC_5_6 fl_X2_22 dX2_meetLinks_3 rfl ?_
  refine j_iload_n hJ dX2_meetLinks_6 rfl 2 rfl ?_
  refine j_iald hJ gp1 kC_29 hF.1 hF.2.1 dX2_meetLinks_7 (fun v1 ev1 gv1 => ?_)
  have hF := hF.2.2 v1 ev1 gv1
  refine j_aload_n hJ dX2_meetLinks_8 rfl 1 rfl ?_
  refine j_iload_n hJ dX2_meetLinks_9 rfl 2 rfl ?_
  refine j_callVi hJ (c_X2_slotsOf (l := l) (D := D) (cy := cy) (ad := ad) hin) rfl om_182 ⟨rfl, rfl, Nat.le_of_ble_eq_true rfl, Nat.le_of_ble_eq_true rfl⟩ [.int (Ii p1)] mv_X2_59 hd_X2_slotsOfv kC_26 rfl rfl rfl (Nat.le_of_ble_eq_true rfl) dX2_meetLinks_10 ⟨p1, rfl, gp1, hF⟩ (fun r2 M3 gr2 qM3 => ?_)
  have hF := qM3 gr2
  refine j_iadd hJ dX2_meetLinks_13 ?_
  have g4 := hF.1; have hF := hF.2
  refine j_istore (lv' := [(4, .int (Ii (v1 + r2))), (3, .int (Ii p2)), (0, .ref (ad 26)), (1, .int (Ii p1)), (2, .int (Ii p2))]) hJ dX2_meetLinks_14 (by decide) rfl ?_
  refine j_aload_n hJ dX2_meetLinks_16 rfl 2 rfl ?_
  refine j_gr (e := 29) hJ kC_26 fC_5_6 fl_X2_22 dX2_meetLinks_17 rfl ?_
  refine j_iload_n hJ dX2_meetLinks_20 rfl 3 rfl ?_
  refine j_iald hJ gp1 kC_29 hF.1 hF.2.1 dX2_meetLinks_21 (fun v5 ev5 gv5 => ?_)
  have hF := hF.2.2 v5 ev5 gv5
  refine j_istore (lv' := [(5, .int (Ii v5)), (4, .int (Ii (v1 + r2))), (3, .int (Ii p2)), (0, .ref (ad 26)), (1, .int (Ii p1)), (2, .int (Ii p2))]) hJ dX2_meetLinks_22 (by decide) rfl ?_
  exact j_sub hJ [3, 2, 1, 0] rfl (k_X2_meetLinks_b24 hin  hJ  p2 (v1 + r2) v5 _ gp2 g4 gv5 hF)
def W_X2_moveSlots (ad : Nat → Nat) (Q : Int → MM → Prop) (av : List Value) (M : MM) : Prop := ∃ (p1 : Int) (p2 : Int) (p3 : Int), av = [.ref (ad 26), .int (Ii p1), .int (Ii p2), .int (Ii p3)] ∧ ri_ p1 ∧ ri_ p2 ∧ ri_ p3 ∧ w_X2_moveSlots  Q p1 p2 p3 M
set_option maxHeartbeats 4000000 in
set_option maxRecDepth 100000 in
theorem k_X2_moveSlots_b3 {l : Launch} {D : va_G} {cy : Nat → ClassId} {ad : Nat → Nat} {Q : Int → MM → Prop} {J : Nat → List (Nat × Value) → List Value → MM → Prop} (hin : jIn ad ksC.length)   (hJ : jOk l D vwCl (tyC cy) cy ad ftC ksC (XtC ad) Om RX2 cX2_moveSlots 5 0 ({ frames := 0, cells := 0, slots := 0, locals := 0 } : Room) Q J)  : ∀ (x1 x2 x3 x4 : Int) (M : MM), ri_ x1 → ri_ x2 → ri_ x3 → ri_ x4 → w_X2_moveSlots_b3  Q  x1 x2 x3 x4 M → J 3 [(0, .ref (ad 26)), (1, .int (Ii x1)), (2, .int (Ii x2)), (3, .int (Ii x3)), (4, .int (Ii x4))] [] M := by
  have H9 : ∀ (n : Nat) (x1 x2 x3 x4 : Int) (M : MM), ri_ x1 → ri_ x2 → ri_ x3 → ri_ x4 → jit (fun _ _ _ _ _ => False) (wb_X2_moveSlots_b3  Q ) n x1 x2 x3 x4 M → J 3 [(0, .ref (ad 26)), (1, .int (Ii x1)), (2, .int (Ii x2)), (3, .int (Ii x3)), (4, .int (Ii x4))] [] M := by
    intro n
    induction n with
    | zero => intro x1 x2 x3 x4 M gx1 gx2 gx3 gx4 hF; exact False.elim hF
    | succ n ih =>
    intro x1 x2 x3 x4 M gx1 gx2 gx3 gx4 hF
    have hF : wb_X2_moveSlots_b3  Q  (jit (fun _ _ _ _ _ => False) (wb_X2_moveSlots_b3  Q ) n) x1 x2 x3 x4 M := hF
    unfold wb_X2_moveSlots_b3 at hF
    refine j_iload hJ dX2_moveSlots_3 4 rfl ?_
    refine j_iload_n hJ dX2_moveSlots_5 rfl 3 rfl ?_
    refine j_icmp_ge hJ 51 gx4 gx3 dX2_moveSlots_6 (by decide) (fun z1 => ?_) (fun z1 => ?_)
    · have hF := hF.1 z1
      exact j_vret hJ rfl dX2_moveSlots_51 hF
    · have hF := hF.2 z1
      refine j_aload_n hJ dX2_moveSlots_9 rfl 0 rfl ?_
      refine j_gr (e := 30) hJ kC_26 fC_5_7 fl_X2_25 dX2_moveSlots_10 rfl ?_
      refine j_iload_n hJ dX2_moveSlots_13 rfl 2 rfl ?_
      refine j_iload hJ dX2_moveSlots_14 4 rfl ?_
      refine j_iadd hJ dX2_moveSlots_16 ?_
      have g2 := hF.1; have hF := hF.2
      refine j_aload_n hJ dX2_moveSlots_17 rfl 0 rfl ?_
      refine j_gr (e := 30) hJ kC_26 fC_5_7 fl_X2_25 dX2_moveSlots_18 rfl ?_
      refine j_iload_n hJ dX2_moveSlots_21 rfl 1 rfl ?_
      refine j_iload hJ dX2_moveSlots_22 4 rfl ?_
      refine j_iadd hJ dX2_moveSlots_24 ?_
      have g3 := hF.1; have hF := hF.2
      refine j_lald hJ g3 kC_30 hF.1 hF.2.1 dX2_moveSlots_25 (fun v4 ev4 gv4 => ?_)
      have hF := hF.2.2 v4 ev4 gv4
      refine j_last hJ g2 gv4 kC_30 hF.1 hF.2.1 dX2_moveSlots_26 (fun M5 eM5 => ?_)
      have hF := hF.2.2 M5 eM5
      refine j_aload_n hJ dX2_moveSlots_27 rfl 0 rfl ?_
      refine j_gr (e := 31) hJ kC_26 fC_5_8 fl_X2_29 dX2_moveSlots_28 rfl ?_
      refine j_iload_n hJ dX2_moveSlots_31 rfl 2 rfl ?_
      refine j_iload hJ dX2_moveSlots_32 4 rfl ?_
      refine j_iadd hJ dX2_moveSlots_34 ?_
      have g6 := hF.1; have hF := hF.2
      refine j_aload_n hJ dX2_moveSlots_35 rfl 0 rfl ?_
      refine j_gr (e := 31) hJ kC_26 fC_5_8 fl_X2_29 dX2_moveSlots_36 rfl ?_
      refine j_iload_n hJ dX2_moveSlots_39 rfl 1 rfl ?_
      refine j_iload hJ dX2_moveSlots_40 4 rfl ?_
      refine j_iadd hJ dX2_moveSlots_42 ?_
      have g7 := hF.1; have hF := hF.2
      refine j_zald hJ g7 kC_31 hF.1 hF.2.1 dX2_moveSlots_43 (fun v8 ev8 gv8 => ?_)
      have hF := hF.2.2 v8 ev8 gv8
      refine j_zast hJ g6 gv8 kC_31 hF.1 hF.2.1 dX2_moveSlots_44 (fun M9 eM9 => ?_)
      have hF := hF.2.2 M9 eM9
      refine j_iinc (lv' := [(4, .int (Ii (x4 + 1))), (0, .ref (ad 26)), (1, .int (Ii x1)), (2, .int (Ii x2)), (3, .int (Ii x3))]) (k := 4) hJ dX2_moveSlots_45 rfl (by decide) rfl ?_
      have g10 := hF.1; have hF := hF.2
      refine j_goto hJ 3 dX2_moveSlots_48 (by decide) ?_
      exact j_sub hJ [1, 2, 3, 4, 0] rfl (ih x1 x2 x3 (x4 + 1) _ gx1 gx2 gx3 g10 hF)
  intro x1 x2 x3 x4 M gx1 gx2 gx3 gx4 hF
  obtain ⟨n, hF⟩ := hF
  exact H9 n x1 x2 x3 x4 M gx1 gx2 gx3 gx4 hF
set_option maxHeartbeats 4000000 in
set_option maxRecDepth 100000 in
theorem c_X2_moveSlots {l : Launch} {D : va_G} {cy : Nat → ClassId} {ad : Nat → Nat} (hin : jIn ad ksC.length) : jCN l D vwCl (tyC cy) cy ad ftC ksC (XtC ad) yX2_moveSlots (.code yX2_moveSlots cX2_moveSlots 5 none :: Om) ({ frames := 0, cells := 0, slots := 0, locals := 0 } : Room) 0 (W_X2_moveSlots ad) := by
  refine jCN_of (y := yX2_moveSlots) (cc := cX2_moveSlots) (nL := 5) (rk := 0) (rm := ({ frames := 0, cells := 0, slots := 0, locals := 0 } : Room)) (own := RX2) (tyC_ok cy) hin (XtC_ok ad) Om_good (by decide) rfl ?_
  intro Q av M hF
  obtain ⟨p1, p2, p3, rfl, gp1, gp2, gp3, hF⟩ := hF
  refine ⟨Nat.le_of_ble_eq_true rfl, fun J hJ => ?_⟩
  show J 0 [(0, .ref (ad 26)), (1, .int (Ii p1)), (2, .int (Ii p2)), (3, .int (Ii p3))] [] M
  unfold w_X2_moveSlots at hF
  refine j_iconst hJ dX2_moveSlots_0 ?_
  refine j_istore (lv' := [(4, .int (Ii 0)), (0, .ref (ad 26)), (1, .int (Ii p1)), (2, .int (Ii p2)), (3, .int (Ii p3))]) hJ dX2_moveSlots_1 (by decide) rfl ?_
  exact j_sub hJ [1, 2, 3, 4, 0] rfl (k_X2_moveSlots_b3 hin  hJ  p1 p2 p3 0 _ gp1 gp2 gp3 rk_0 hF)
def W_X2_dropUnreached (ad : Nat → Nat) (Q : Int → MM → Prop) (av : List Value) (M : MM) : Prop := av = [.ref (ad 26)] ∧ w_X2_dropUnreached  Q  M
set_option maxHeartbeats 4000000 in
set_option maxRecDepth 100000 in
theorem k_X2_dropUnreached_b134 {l : Launch} {D : va_G} {cy : Nat → ClassId} {ad : Nat → Nat} {Q : Int → MM → Prop} {J : Nat → List (Nat × Value) → List Value → MM → Prop} (hin : jIn ad ksC.length)   (hJ : jOk l D vwCl (tyC cy) cy ad ftC ksC (XtC ad) Om RX2 cX2_dropUnreached 6 1 ({ frames := 4, cells := 0, slots := 0, locals := 88 } : Room) Q J) {K54 : Int → Int → Int → Int → MM → Prop} (hK54 : ∀ (x1 x2 x3 x4 : Int) (M : MM), ri_ x1 → ri_ x2 → ri_ x3 → ri_ x4 → K54 x1 x2 x3 x4 M → J 54 [(0, .ref (ad 26)), (1, .int (Ii x1)), (2, .int (Ii x2)), (3, .int (Ii x3)), (4, .int (Ii x4))] [] M) : ∀ (x1 x2 x3 x4 : Int) (M : MM), ri_ x1 → ri_ x2 → ri_ x3 → ri_ x4 → w_X2_dropUnreached_b134  Q K54 x1 x2 x3 x4 M → J 134 [(0, .ref (ad 26)), (1, .int (Ii x1)), (2, .int (Ii x2)), (3, .int (Ii x3)), (4, .int (Ii x4))] [] M := by
  intro x1 x2 x3 x4 M gx1 gx2 gx3 gx4 hF
  unfold w_X2_dropUnreached_b134 at hF
  refine j_iinc (lv' := [(4, .int (Ii (x4 + 1))), (0, .ref (ad 26)), (1, .int (Ii x1)), (2, .int (Ii x2)), (3, .int (Ii x3))]) (k := 4) hJ dX2_dropUnreached_134 rfl (by decide) rfl ?_
  have g1 := hF.1; have hF := hF.2
  refine j_goto hJ 54 dX2_dropUnreached_137 (by decide) ?_
  exact j_sub hJ [1, 2, 3, 4, 0] rfl (hK54 x1 x2 x3 (x4 + 1) _ gx1 gx2 gx3 g1 hF)
set_option maxHeartbeats 4000000 in
set_option maxRecDepth 100000 in
theorem k_X2_dropUnreached_b54 {l : Launch} {D : va_G} {cy : Nat → ClassId} {ad : Nat → Nat} {Q : Int → MM → Prop} {J : Nat → List (Nat × Value) → List Value → MM → Prop} (hin : jIn ad ksC.length)   (hJ : jOk l D vwCl (tyC cy) cy ad ftC ksC (XtC ad) Om RX2 cX2_dropUnreached 6 1 ({ frames := 4, cells := 0, slots := 0, locals := 88 } : Room) Q J)  : ∀ (x1 x2 x3 x4 : Int) (M : MM), ri_ x1 → ri_ x2 → ri_ x3 → ri_ x4 → w_X2_dropUnreached_b54  Q  x1 x2 x3 x4 M → J 54 [(0, .ref (ad 26)), (1, .int (Ii x1)), (2, .int (Ii x2)), (3, .int (Ii x3)), (4, .int (Ii x4))] [] M := by
  have H9 : ∀ (n : Nat) (x1 x2 x3 x4 : Int) (M : MM), ri_ x1 → ri_ x2 → ri_ x3 → ri_ x4 → jit (fun _ _ _ _ _ => False) (wb_X2_dropUnreached_b54  Q ) n x1 x2 x3 x4 M → J 54 [(0, .ref (ad 26)), (1, .int (Ii x1)), (2, .int (Ii x2)), (3, .int (Ii x3)), (4, .int (Ii x4))] [] M := by
    intro n
    induction n with
    | zero => intro x1 x2 x3 x4 M gx1 gx2 gx3 gx4 hF; exact False.elim hF
    | succ n ih =>
    intro x1 x2 x3 x4 M gx1 gx2 gx3 gx4 hF
    have hF : wb_X2_dropUnreached_b54  Q  (jit (fun _ _ _ _ _ => False) (wb_X2_dropUnreached_b54  Q ) n) x1 x2 x3 x4 M := hF
    unfold wb_X2_dropUnreached_b54 at hF
    refine j_iload hJ dX2_dropUnreached_54 4 rfl ?_
    refine j_aload_n hJ dX2_dropUnreached_56 rfl 0 rfl ?_
    refine j_gi hJ kC_26 fC_5_1 rfl fl_X2_47 dX2_dropUnreached_57 (fun v1 ev1 gv1 => ?_)
    have hF := hF v1 ev1 gv1
    refine j_icmp_ge hJ 140 gx4 gv1 dX2_dropUnreached_60 (by decide) (fun z2 => ?_) (fun z2 => ?_)
    · have hF := hF.1 z2
      refine j_aload_n hJ dX2_dropUnreached_140 rfl 0 rfl ?_
      refine j_iload_n hJ dX2_dropUnreached_141 rfl 3 rfl ?_
      refine j_pi hJ gx3 kC_26 fC_5_3 rfl fp_X2_62 dX2_dropUnreached_142 (fun M3 eM3 => ?_)
      have hF := hF M3 eM3
      refine j_aload_n hJ dX2_dropUnreached_145 rfl 0 rfl ?_
      refine j_iload_n hJ dX2_dropUnreached_146 rfl 1 rfl ?_
      refine j_pi hJ gx1 kC_26 fC_5_2 rfl fp_X2_75 dX2_dropUnreached_147 (fun M4 eM4 => ?_)
      have hF := hF M4 eM4
      refine j_iload_n hJ dX2_dropUnreached_150 rfl 2 rfl ?_
      exact j_iret hJ rfl gx2 dX2_dropUnreached_151 hF
    · have hF := hF.2 z2
      refine j_aload_n hJ dX2_dropUnreached_63 rfl 0 rfl ?_
      refine j_gr (e := 27) hJ kC_26 fC_5_4 fl_X2_15 dX2_dropUnreached_64 rfl ?_
      refine j_iload hJ dX2_dropUnreached_67 4 rfl ?_
      refine j_iald hJ gx4 kC_27 hF.1 hF.2.1 dX2_dropUnreached_69 (fun v5 ev5 gv5 => ?_)
      have hF := hF.2.2 v5 ev5 gv5
      refine j_iconst hJ dX2_dropUnreached_70 ?_
      refine j_icmp_ne hJ 77 gv5 rk_m1 dX2_dropUnreached_71 (by decide) (fun z6 => ?_) (fun z6 => ?_)
      · have hF := hF.1 z6
        refine j_aload_n hJ dX2_dropUnreached_77 rfl 0 rfl ?_
        refine j_iload hJ dX2_dropUnreached_78 4 rfl ?_
        refine j_callVi hJ (c_X2_slotsOf (l := l) (D := D) (cy := cy) (ad := ad) hin) rfl om_182 ⟨rfl, rfl, Nat.le_of_ble_eq_true rfl, Nat.le_of_ble_eq_true rfl⟩ [.int (Ii x4)] mv_X2_59 hd_X2_slotsOfv kC_26 rfl rfl rfl (Nat.le_of_ble_eq_true rfl) dX2_dropUnreached_80 ⟨x4, rfl, gx4, hF⟩ (fun r7 M8 gr7 qM8 => ?_)
        have hF := qM8 gr7
        refine j_istore (lv' := [(5, .int (Ii r7)), (0, .ref (ad 26)), (1, .int (Ii x1)), (2, .int (Ii x2)), (3, .int (Ii x3)), (4, .int (Ii x4))]) hJ dX2_dropUnreached_83 (by decide) rfl ?_
        refine j_aload_n hJ dX2_dropUnreached_85 rfl 1 rfl ?_
        refine j_gr (e := 35) hJ kC_26 fC_5_13 fl_X2_44 dX2_dropUnreached_86 rfl ?_
        refine j_iload hJ dX2_dropUnreached_89 5 rfl ?_
        refine j_iald hJ gx4 kC_35 hF.1 hF.2.1 dX2_dropUnreached_91 (fun v9 ev9 gv9 => ?_)
        have hF := hF.2.2 v9 ev9 gv9
        refine j_iconst hJ dX2_dropUnreached_92 ?_
        refine j_icmp_ne hJ 107 gv9 rk_m1 dX2_dropUnreached_93 (by decide) (fun z10 => ?_) (fun z10 => ?_)
        · have hF := hF.1 z10
          refine j_aload_n hJ dX2_dropUnreached_107 rfl 1 rfl ?_
          refine j_aload_n hJ dX2_dropUnreached_108 rfl 1 rfl ?_
          refine j_gr (e := 29) hJ kC_26 fC_5_6 fl_X2_22 dX2_dropUnreached_109 rfl ?_
          refine j_iload hJ dX2_dropUnreached_112 5 rfl ?_
          refine j_iald hJ gx4 kC_29 hF.1 hF.2.1 dX2_dropUnreached_114 (fun v11 ev11 gv11 => ?_)
          have hF := hF.2.2 v11 ev11 gv11
          refine j_iload_n hJ dX2_dropUnreached_115 rfl 4 rfl ?_
          refine j_iload hJ dX2_dropUnreached_116 0 rfl ?_
          refine j_callVv hJ (c_X2_moveSlots (l := l) (D := D) (cy := cy) (ad := ad) hin) rfl om_229 ⟨rfl, rfl, Nat.le_of_ble_eq_true rfl, Nat.le_of_ble_eq_true rfl⟩ [.int (Ii v11), .int (Ii x3), .int (Ii r7)] mv_X2_128 hd_X2_moveSlotsv kC_26 rfl rfl rfl (Nat.le_of_ble_eq_true rfl) dX2_dropUnreached_118 ⟨v11, x3, r7, rfl, gv11, gx3, gr7, hF⟩ (fun M13 qM13 => ?_)
          have hF := qM13
          refine j_aload_n hJ dX2_dropUnreached_121 rfl 1 rfl ?_
          refine j_gr (e := 29) hJ kC_26 fC_5_6 fl_X2_22 dX2_dropUnreached_122 rfl ?_
          refine j_iload hJ dX2_dropUnreached_125 5 rfl ?_
          refine j_iload_n hJ dX2_dropUnreached_127 rfl 4 rfl ?_
          refine j_iast hJ gx4 gx3 kC_29 hF.1 hF.2.1 dX2_dropUnreached_128 (fun M14 eM14 => ?_)
          have hF := hF.2.2 M14 eM14
          refine j_iload_n hJ dX2_dropUnreached_129 rfl 4 rfl ?_
          refine j_iload hJ dX2_dropUnreached_130 0 rfl ?_
          refine j_iadd hJ dX2_dropUnreached_132 ?_
          have g15 := hF.1; have hF := hF.2
          refine j_istore_n (lv' := [(3, .int (Ii (x3 + r7))), (5, .int (Ii r7)), (0, .ref (ad 26)), (1, .int (Ii x1)), (2, .int (Ii x2)), (4, .int (Ii x4))]) hJ dX2_dropUnreached_133 rfl (by decide) rfl ?_
          exact j_sub hJ [2, 3, 4, 0, 5] rfl (k_X2_dropUnreached_b134 hin  hJ ih x1 x2 (x3 + r7) x4 _ gx1 gx2 g15 gx4 hF)
        · have hF := hF.2 z10
          refine j_aload_n hJ dX2_dropUnreached_96 rfl 1 rfl ?_
          refine j_gr (e := 27) hJ kC_26 fC_5_4 fl_X2_15 dX2_dropUnreached_97 rfl ?_
          refine j_iload hJ dX2_dropUnreached_100 5 rfl ?_
          refine j_iconst hJ dX2_dropUnreached_102 ?_
          refine j_iast hJ gx4 rk_m1 kC_27 hF.1 hF.2.1 dX2_dropUnreached_103 (fun M16 eM16 => ?_)
          have hF := hF.2.2 M16 eM16
          refine j_goto hJ 134 dX2_dropUnreached_104 (by decide) ?_
          exact j_sub hJ [1, 2, 3, 4, 5] rfl (k_X2_dropUnreached_b134 hin  hJ ih x1 x2 x3 x4 _ gx1 gx2 gx3 gx4 hF)
      · have hF := hF.2 z6
        refine j_goto hJ 134 dX2_dropUnreached_74 (by decide) ?_
        exact j_sub hJ [0, 1, 2, 3, 4] rfl (k_X2_dropUnreached_b134 hin  hJ ih x1 x2 x3 x4 _ gx1 gx2 gx3 gx4 hF)
  intro x1 x2 x3 x4 M gx1 gx2 gx3 gx4 hF
  obtain ⟨n, hF⟩ := hF
  exact H9 n x1 x2 x3 x4 M gx1 gx2 gx3 gx4 hF
set_option maxHeartbeats 4000000 in
set_option maxRecDepth 100000 in
theorem k_X2_dropUnreached_b42 {l : Launch} {D : va_G} {cy : Nat → ClassId} {ad : Nat → Nat} {Q : Int → MM → Prop} {J : Nat → List (Nat × Value) → List Value → MM → Prop} (hin : jIn ad ksC.length)   (hJ : jOk l D vwCl (tyC cy) cy ad ftC ksC (XtC ad) Om RX2 cX2_dropUnreached 6 1 ({ frames := 4, cells := 0, slots := 0, locals := 88 } : Room) Q J)  : ∀ (x1 : Int) (M : MM), ri_ x1 → w_X2_dropUnreached_b42  Q  x1 M → J 42 [(0, .ref (ad 26)), (1, .int (Ii x1))] [] M := by
  intro x1 M gx1 hF
  unfold w_X2_dropUnreached_b42 at hF
  refine j_aload_n hJ dX2_dropUnreached_42 rfl 0 rfl ?_
  refine j_gi hJ kC_26 fC_5_2 rfl fl_X2_75 dX2_dropUnreached_43 (fun v1 ev1 gv1 => ?_)
  have hF := hF v1 ev1 gv1
  refine j_iload_n hJ dX2_dropUnreached_46 rfl 1 rfl ?_
  refine j_isub hJ dX2_dropUnreached_47 ?_
  have g2 := hF.1; have hF := hF.2
  refine j_istore_n (lv' := [(2, .int (Ii (v1 - x1))), (0, .ref (ad 26)), (1, .int (Ii x1))]) hJ dX2_dropUnreached_48 rfl (by decide) rfl ?_
  refine j_iconst hJ dX2_dropUnreached_49 ?_
  refine j_istore_n (lv' := [(3, .int (Ii 0)), (2, .int (Ii (v1 - x1))), (0, .ref (ad 26)), (1, .int (Ii x1))]) hJ dX2_dropUnreached_50 rfl (by decide) rfl ?_
  refine j_iconst hJ dX2_dropUnreached_51 ?_
  refine j_istore (lv' := [(4, .int (Ii 0)), (3, .int (Ii 0)), (2, .int (Ii (v1 - x1))), (0, .ref (ad 26)), (1, .int (Ii x1))]) hJ dX2_dropUnreached_52 (by decide) rfl ?_
  exact j_sub hJ [3, 4, 2, 1, 0] rfl (k_X2_dropUnreached_b54 hin  hJ  x1 (v1 - x1) 0 0 _ gx1 g2 rk_0 rk_0 hF)
set_option maxHeartbeats 4000000 in
set_option maxRecDepth 100000 in
theorem k_X2_dropUnreached_b11 {l : Launch} {D : va_G} {cy : Nat → ClassId} {ad : Nat → Nat} {Q : Int → MM → Prop} {J : Nat → List (Nat × Value) → List Value → MM → Prop} (hin : jIn ad ksC.length)   (hJ : jOk l D vwCl (tyC cy) cy ad ftC ksC (XtC ad) Om RX2 cX2_dropUnreached 6 1 ({ frames := 4, cells := 0, slots := 0, locals := 88 } : Room) Q J)  : ∀ (x1 x2 : Int) (M : MM), ri_ x1 → ri_ x2 → w_X2_dropUnreached_b11  Q  x1 x2 M → J 11 [(0, .ref (ad 26)), (1, .int (Ii x1)), (2, .int (Ii x2))] [] M := by
  have H9 : ∀ (n : Nat) (x1 x2 : Int) (M : MM), ri_ x1 → ri_ x2 → jit (fun _ _ _ => False) (wb_X2_dropUnreached_b11  Q ) n x1 x2 M → J 11 [(0, .ref (ad 26)), (1, .int (Ii x1)), (2, .int (Ii x2))] [] M := by
    intro n
    induction n with
    | zero => intro x1 x2 M gx1 gx2 hF; exact False.elim hF
    | succ n ih =>
    intro x1 x2 M gx1 gx2 hF
    have hF : wb_X2_dropUnreached_b11  Q  (jit (fun _ _ _ => False) (wb_X2_dropUnreached_b11  Q ) n) x1 x2 M := hF
    unfold wb_X2_dropUnreached_b11 at hF
    refine j_iload_n hJ dX2_dropUnreached_11 rfl 2 rfl ?_
    refine j_iload_n hJ dX2_dropUnreached_12 rfl 1 rfl ?_
    refine j_icmp_ge hJ 42 gx2 gx1 dX2_dropUnreached_13 (by decide) (fun z1 => ?_) (fun z1 => ?_)
    · have hF := hF.1 z1
      exact j_sub hJ [0, 1] rfl (k_X2_dropUnreached_b42 hin  hJ  x1 _ gx1 hF)
    · have hF := hF.2 z1
      refine j_iload_n hJ dX2_dropUnreached_16 rfl 2 rfl ?_
      refine j_aload_n hJ dX2_dropUnreached_17 rfl 0 rfl ?_
      refine j_gi hJ kC_26 fC_5_1 rfl fl_X2_47 dX2_dropUnreached_18 (fun v2 ev2 gv2 => ?_)
      have hF := hF v2 ev2 gv2
      refine j_icmp_ge hJ 42 gx2 gv2 dX2_dropUnreached_21 (by decide) (fun z3 => ?_) (fun z3 => ?_)
      · have hF := hF.1 z3
        exact j_sub hJ [0, 1] rfl (k_X2_dropUnreached_b42 hin  hJ  x1 _ gx1 hF)
      · have hF := hF.2 z3
        refine j_aload_n hJ dX2_dropUnreached_24 rfl 0 rfl ?_
        refine j_aload_n hJ dX2_dropUnreached_25 rfl 0 rfl ?_
        refine j_gr (e := 34) hJ kC_26 fC_5_12 fl_X2_41 dX2_dropUnreached_26 rfl ?_
        refine j_iload_n hJ dX2_dropUnreached_29 rfl 2 rfl ?_
        refine j_iald hJ gx2 kC_34 hF.1 hF.2.1 dX2_dropUnreached_30 (fun v4 ev4 gv4 => ?_)
        have hF := hF.2.2 v4 ev4 gv4
        refine j_iload_n hJ dX2_dropUnreached_31 rfl 1 rfl ?_
        refine j_callVi hJ (c_X2_meetLinks (l := l) (D := D) (cy := cy) (ad := ad) hin) rfl om_233 ⟨rfl, rfl, Nat.le_of_ble_eq_true rfl, Nat.le_of_ble_eq_true rfl⟩ [.int (Ii v4), .int (Ii x1)] mv_X2_125 hd_X2_meetLinksv kC_26 rfl rfl rfl (Nat.le_of_ble_eq_true rfl) dX2_dropUnreached_32 ⟨v4, x1, rfl, gv4, gx1, hF⟩ (fun r5 M6 gr5 qM6 => ?_)
        have hF := qM6 gr5
        refine j_istore_n (lv' := [(1, .int (Ii r5)), (0, .ref (ad 26)), (2, .int (Ii x2))]) hJ dX2_dropUnreached_35 rfl (by decide) rfl ?_
        refine j_iinc (lv' := [(2, .int (Ii (x2 + 1))), (1, .int (Ii r5)), (0, .ref (ad 26))]) (k := 2) hJ dX2_dropUnreached_36 rfl (by decide) rfl ?_
        have g7 := hF.1; have hF := hF.2
        refine j_goto hJ 11 dX2_dropUnreached_39 (by decide) ?_
        exact j_sub hJ [2, 1, 0] rfl (ih r5 (x2 + 1) _ gr5 g7 hF)
  intro x1 x2 M gx1 gx2 hF
  obtain ⟨n, hF⟩ := hF
  exact H9 n x1 x2 M gx1 gx2 hF
set_option maxHeartbeats 4000000 in
set_option maxRecDepth 100000 in
theorem c_X2_dropUnreached {l : Launch} {D : va_G} {cy : Nat → ClassId} {ad : Nat → Nat} (hin : jIn ad ksC.length) : jCN l D vwCl (tyC cy) cy ad ftC ksC (XtC ad) yX2_dropUnreached (.code yX2_dropUnreached cX2_dropUnreached 6 (some .int) :: Om) ({ frames := 4, cells := 0, slots := 0, locals := 88 } : Room) 1 (W_X2_dropUnreached ad) := by
  refine jCN_of (y := yX2_dropUnreached) (cc := cX2_dropUnreached) (nL := 6) (rk := 1) (rm := ({ frames := 4, cells := 0, slots := 0, locals := 88 } : Room)) (own := RX2) (tyC_ok cy) hin (XtC_ok ad) Om_good (by decide) rfl ?_
  intro Q av M hF
  obtain ⟨rfl, hF⟩ := hF
  refine ⟨Nat.le_of_ble_eq_true rfl, fun J hJ => ?_⟩
  show J 0 [(0, .ref (ad 26))] [] M
  unfold w_X2_dropUnreached at hF
  refine j_aload_n hJ dX2_dropUnreached_0 rfl 0 rfl ?_
  refine j_callVv hJ (c_X2_clearMarks (l := l) (D := D) (cy := cy) (ad := ad) hin) rfl om_221 ⟨rfl, rfl, Nat.le_of_ble_eq_true rfl, Nat.le_of_ble_eq_true rfl⟩ [] mv_X2_119 hd_X2_clearMarksv kC_26 rfl rfl rfl (Nat.le_of_ble_eq_true rfl) dX2_dropUnreached_1 ⟨rfl, hF⟩ (fun M2 qM2 => ?_)
  have hF := qM2
  refine j_aload_n hJ dX2_dropUnreached_4 rfl 0 rfl ?_
  refine j_callVi hJ (c_X2_meetRoots (l := l) (D := D) (cy := cy) (ad := ad) hin) rfl om_225 ⟨rfl, rfl, Nat.le_of_ble_eq_true rfl, Nat.le_of_ble_eq_true rfl⟩ [] mv_X2_122 hd_X2_meetRootsv kC_26 rfl rfl rfl (Nat.le_of_ble_eq_true rfl) dX2_dropUnreached_5 ⟨rfl, hF⟩ (fun r3 M4 gr3 qM4 => ?_)
  have hF := qM4 gr3
  refine j_istore_n (lv' := [(1, .int (Ii r3)), (0, .ref (ad 26))]) hJ dX2_dropUnreached_8 rfl (by decide) rfl ?_
  refine j_iconst hJ dX2_dropUnreached_9 ?_
  refine j_istore_n (lv' := [(2, .int (Ii 0)), (1, .int (Ii r3)), (0, .ref (ad 26))]) hJ dX2_dropUnreached_10 rfl (by decide) rfl ?_
  exact j_sub hJ [2, 1, 0] rfl (k_X2_dropUnreached_b11 hin  hJ  r3 0 _ gr3 rk_0 hF)
def W_X10_isApart (ad : Nat → Nat) (Q : Int → MM → Prop) (av : List Value) (M : MM) : Prop := ∃ (p1 : Int), av = [.ref (ad 8), .int (Ii p1)] ∧ ri_ p1 ∧ w_X10_isApart  Q p1 M
set_option maxHeartbeats 4000000 in
set_option maxRecDepth 100000 in
theorem k_X10_isApart_b15 {l : Launch} {D : va_G} {cy : Nat → ClassId} {ad : Nat → Nat} {Q : Int → MM → Prop} {J : Nat → List (Nat × Value) → List Value → MM → Prop} (hin : jIn ad ksC.length)   (hJ : jOk l D vwCl (tyC cy) cy ad ftC ksC (XtC ad) Om RX10 cX10_isApart 4 3 ({ frames := 1, cells := 0, slots := 0, locals := 20 } : Room) Q J)  : ∀ (x2 x3 : Int) (M : MM), ri_ x2 → ri_ x3 → w_X10_isApart_b15  Q  x2 x3 M → J 15 [(0, .ref (ad 8)), (2, .int (Ii x2)), (3, .int (Ii x3))] [] M := by
  have H9 : ∀ (n : Nat) (x2 x3 : Int) (M : MM), ri_ x2 → ri_ x3 → jit (fun _ _ _ => False) (wb_X10_isApart_b15  Q ) n x2 x3 M → J 15 [(0, .ref (ad 8)), (2, .int (Ii x2)), (3, .int (Ii x3))] [] M := by
    intro n
    induction n with
    | zero => intro x2 x3 M gx2 gx3 hF; exact False.elim hF
    | succ n ih =>
    intro x2 x3 M gx2 gx3 hF
    have hF : wb_X10_isApart_b15  Q  (jit (fun _ _ _ => False) (wb_X10_isApart_b15  Q ) n) x2 x3 M := hF
    unfold wb_X10_isApart_b15 at hF
    refine j_iload_n hJ dX10_isApart_15 rfl 2 rfl ?_
    refine j_bipush hJ dX10_isApart_16 (by decide) ?_
    refine j_icmp_ge hJ 50 gx3 rk_16 dX10_isApart_18 (by decide) (fun z1 => ?_) (fun z1 => ?_)
    · have hF := hF.1 z1
      refine j_iconst hJ dX10_isApart_50 ?_
      exact j_zret hJ rfl (by decide) dX10_isApart_51 hF
    · have hF := hF.2 z1
      refine j_iload_n hJ dX10_isApart_21 rfl 1 rfl ?_
      refine j_iconst hJ dX10_isApart_22 ?_
      refine j_icmp_eq hJ 50 gx2 rk_m1 dX10_isApart_23 (by decide) (fun z2 => ?_) (fun z2 => ?_)
      · have hF := hF.1 z2
        refine j_iconst hJ dX10_isApart_50 ?_
        exact j_zret hJ rfl (by decide) dX10_isApart_51 hF
      · have hF := hF.2 z2
        refine j_aload_n hJ dX10_isApart_26 rfl 0 rfl ?_
        refine j_gr (e := 13) hJ kC_8 fC_13_5 fl_X10_26 dX10_isApart_27 rfl ?_
        refine j_iload_n hJ dX10_isApart_30 rfl 1 rfl ?_
        refine j_zald hJ gx2 kC_13 hF.1 hF.2.1 dX10_isApart_31 (fun v3 ev3 gv3 => ?_)
        have hF := hF.2.2 v3 ev3 gv3
        refine j_if_eq hJ 37 (jz_ri gv3) dX10_isApart_32 (by decide) (fun z4 => ?_) (fun z4 => ?_)
        · have hF := hF.1 z4
          refine j_aload_n hJ dX10_isApart_37 rfl 0 rfl ?_
          refine j_gr (e := 11) hJ kC_8 fC_13_3 fl_X10_19 dX10_isApart_38 rfl ?_
          refine j_iload_n hJ dX10_isApart_41 rfl 1 rfl ?_
          refine j_iald hJ gx2 kC_11 hF.1 hF.2.1 dX10_isApart_42 (fun v5 ev5 gv5 => ?_)
          have hF := hF.2.2 v5 ev5 gv5
          refine j_istore_n (lv' := [(2, .int (Ii v5)), (0, .ref (ad 8)), (3, .int (Ii x3))]) hJ dX10_isApart_43 rfl (by decide) rfl ?_
          refine j_iinc (lv' := [(3, .int (Ii (x3 + 1))), (2, .int (Ii v5)), (0, .ref (ad 8))]) (k := 2) hJ dX10_isApart_44 rfl (by decide) rfl ?_
          have g6 := hF.1; have hF := hF.2
          refine j_goto hJ 15 dX10_isApart_47 (by decide) ?_
          exact j_sub hJ [2, 1, 0] rfl (ih v5 (x3 + 1) _ gv5 g6 hF)
        · have hF := hF.2 z4
          refine j_iconst hJ dX10_isApart_35 ?_
          exact j_zret hJ rfl (by decide) dX10_isApart_36 hF
  intro x2 x3 M gx2 gx3 hF
  obtain ⟨n, hF⟩ := hF
  exact H9 n x2 x3 M gx2 gx3 hF
set_option maxHeartbeats 4000000 in
set_option maxRecDepth 100000 in
theorem k_X10_isApart_b12 {l : Launch} {D : va_G} {cy : Nat → ClassId} {ad : Nat → Nat} {Q : Int → MM → Prop} {J : Nat → List (Nat × Value) → List Value → MM → Prop} (hin : jIn ad ksC.length)   (hJ : jOk l D vwCl (tyC cy) cy ad ftC ksC (XtC ad) Om RX10 cX10_isApart 4 3 ({ frames := 1, cells := 0, slots := 0, locals := 20 } : Room) Q J)  : ∀ (s0 : Int) (M : MM), ri_ s0 → w_X10_isApart_b12  Q  s0 M → J 12 [(0, .ref (ad 8))] [.int (Ii s0)] M := by
  intro s0 M gs0 hF
  unfold w_X10_isApart_b12 at hF
  refine j_istore_n (lv' := [(2, .int (Ii s0)), (0, .ref (ad 8))]) hJ dX10_isApart_12 rfl (by decide) rfl ?_
  refine j_iconst hJ dX10_isApart_13 ?_
  refine j_istore_n (lv' := [(3, .int (Ii 0)), (2, .int (Ii s0)), (0, .ref (ad 8))]) hJ dX10_isApart_14 rfl (by decide) rfl ?_
  exact j_sub hJ [2, 1, 0] rfl (k_X10_isApart_b15 hin  hJ  s0 0 _ gs0 rk_0 hF)
set_option maxHeartbeats 4000000 in
set_option maxRecDepth 100000 in
theorem c_X10_isApart {l : Launch} {D : va_G} {cy : Nat → ClassId} {ad : Nat → Nat} (hin : jIn ad ksC.length) : jCN l D vwCl (tyC cy) cy ad ftC ksC (XtC ad) yX10_isApart (.code yX10_isApart cX10_isApart 4 (some .boolean) :: Om) ({ frames := 1, cells := 0, slots := 0, locals := 20 } : Room) 3 (W_X10_isApart ad) := by
  refine jCN_of (y := yX10_isApart) (cc := cX10_isApart) (nL := 4) (rk := 3) (rm := ({ frames := 1, cells := 0, slots := 0, locals := 20 } : Room)) (own := RX10) (tyC_ok cy) hin (XtC_ok ad) Om_good (by decide) rfl ?_
  intro Q av M hF
  obtain ⟨p1, rfl, gp1, hF⟩ := hF
  refine ⟨Nat.le_of_ble_eq_true rfl, fun J hJ => ?_⟩
  show J 0 [(0, .ref (ad 8)), (1, .int (Ii p1))] [] M
  unfold w_X10_isApart at hF
  refine j_iload_n hJ dX10_isApart_0 rfl 1 rfl ?_
  refine j_callSz hJ (c_X10_isArray (l := l) (D := D) (cy := cy) (ad := ad) hin) rfl om_39 ⟨rfl, rfl, Nat.le_of_ble_eq_true rfl, Nat.le_of_ble_eq_true rfl⟩ [.int (Ii p1)] mv_X10_86 hd_X10_isArray rfl (Nat.le_of_ble_eq_true rfl) dX10_isApart_1 ⟨p1, rfl, gp1, hF⟩ (fun r1 M2 gr1 qM2 => ?_)
  have hF := qM2 gr1
  refine j_if_eq hJ 11 (jz_ri gr1) dX10_isApart_4 (by decide) (fun z3 => ?_) (fun z3 => ?_)
  · have hF := hF.1 z3
    refine j_iload_n hJ dX10_isApart_11 rfl 1 rfl ?_
    exact j_sub hJ [0] rfl (k_X10_isApart_b12 hin  hJ  p1 _ gp1 hF)
  · have hF := hF.2 z3
    refine j_iconst hJ dX10_isApart_7 ?_
    refine j_goto hJ 12 dX10_isApart_8 (by decide) ?_
    exact j_sub hJ [0] rfl (k_X10_isApart_b12 hin  hJ  (-1) _ rk_m1 hF)
