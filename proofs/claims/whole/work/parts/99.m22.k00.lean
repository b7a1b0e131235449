set_option maxHeartbeats 4000000 in
set_option maxRecDepth 100000 in
theorem k_X9_init_b124 {l : Launch} {D : va_G} {cy : Nat → ClassId} {ad : Nat → Nat} {ksB : List (Nat × Nat)} {xs : Nat → Int} {L : Nat} {Q : Int → MM → Prop} {J : Nat → List (Nat × Value) → List Value → MM → Prop} (hin : jIn ad ksB.length)  (hk1 : ksB[1]? = some (6, 12)) (hk_keywords : ksB[7]? = some (1, 29)) (hJ : jOk l D vwCl (tyB cy) cy ad ftB ksB (XtB ad xs L) Om RX9 cX9_init 5 0 ({ frames := 5, cells := 6, slots := jSl ftB ksK 8 - jSl ftB ksK 2, locals := 123 } : Room) Q J) {K63 : Int → Int → Int → MM → Prop} (hK63 : ∀ (x1 x2 x4 : Int) (M : MM), ri_ x1 → rl_ x2 → ri_ x4 → K63 x1 x2 x4 M → J 63 [(0, .ref (ad 1)), (1, .int (Ii x1)), (2, .long (Ll x2)), (4, .int (Ii x4))] [] M) : ∀ (x1 x2 x4 : Int) (M : MM), ri_ x1 → rl_ x2 → ri_ x4 → w_X9_init_b124  Q K63 x1 x2 x4 M → J 124 [(0, .ref (ad 1)), (1, .int (Ii x1)), (2, .long (Ll x2)), (4, .int (Ii x4))] [] M := by
  intro x1 x2 x4 M gx1 gx2 gx4 hF
  unfold w_X9_init_b124 at hF
  refine j_iinc (lv' := [(4, .int (Ii (x4 + 1))), (0, .ref (ad 1)), (1, .int (Ii x1)), (2, .long (Ll x2))]) (k := 3) hJ dX9_init_124 rfl (by decide) rfl ?_
  have g1 := hF.1; have hF := hF.2
  refine j_goto hJ 63 dX9_init_127 (by decide) ?_
  exact j_sub hJ [1, 2, 3, 0] rfl (hK63 x1 x2 (x4 + 1) _ gx1 gx2 g1 hF)
set_option maxHeartbeats 4000000 in
set_option maxRecDepth 100000 in
theorem k_X9_init_b63 {l : Launch} {D : va_G} {cy : Nat → ClassId} {ad : Nat → Nat} {ksB : List (Nat × Nat)} {xs : Nat → Int} {L : Nat} {Q : Int → MM → Prop} {J : Nat → List (Nat × Value) → List Value → MM → Prop} (hin : jIn ad ksB.length)  (hk1 : ksB[1]? = some (6, 12)) (hk_keywords : ksB[7]? = some (1, 29)) (hJ : jOk l D vwCl (tyB cy) cy ad ftB ksB (XtB ad xs L) Om RX9 cX9_init 5 0 ({ frames := 5, cells := 6, slots := jSl ftB ksK 8 - jSl ftB ksK 2, locals := 123 } : Room) Q J)  : ∀ (x1 x2 x4 : Int) (M : MM), ri_ x1 → rl_ x2 → ri_ x4 → w_X9_init_b63  Q  x1 x2 x4 M → J 63 [(0, .ref (ad 1)), (1, .int (Ii x1)), (2, .long (Ll x2)), (4, .int (Ii x4))] [] M := by
  have H9 : ∀ (n : Nat) (x1 x2 x4 : Int) (M : MM), ri_ x1 → rl_ x2 → ri_ x4 → jit (fun _ _ _ _ => False) (wb_X9_init_b63  Q ) n x1 x2 x4 M → J 63 [(0, .ref (ad 1)), (1, .int (Ii x1)), (2, .long (Ll x2)), (4, .int (Ii x4))] [] M := by
    intro n
    induction n with
    | zero => intro x1 x2 x4 M gx1 gx2 gx4 hF; exact False.elim hF
    | succ n ih =>
    intro x1 x2 x4 M gx1 gx2 gx4 hF
    have hF : wb_X9_init_b63  Q  (jit (fun _ _ _ _ => False) (wb_X9_init_b63  Q ) n) x1 x2 x4 M := hF
    unfold wb_X9_init_b63 at hF
    refine j_iload hJ dX9_init_63 3 rfl ?_
    refine j_ldcS hJ XtB0_s1 dX9_init_65 ?_
    refine j_callTi hJ (c_J0_length_8abf5_B0 (l := l) (D := D) (cy := cy) (ad := ad) hin) rfl om_547 ⟨rfl, rfl, Nat.le_of_ble_eq_true rfl, Nat.le_of_ble_eq_true rfl⟩ [] mv_X9_33 hd_J0_length_8abf5v XtB0_s0 rfl (Nat.le_of_ble_eq_true rfl) dX9_init_67 ⟨rfl, hF⟩ (fun r1 M2 gr1 qM2 => ?_)
    have hF := qM2 gr1
    refine j_icmp_ge hJ 130 gx4 gr1 dX9_init_70 (by decide) (fun z3 => ?_) (fun z3 => ?_)
    · have hF := hF.1 z3
      exact j_vret hJ rfl dX9_init_130 hF
    · have hF := hF.2 z3
      refine j_ldcS hJ XtB0_s1 dX9_init_73 ?_
      refine j_iload hJ dX9_init_75 3 rfl ?_
      refine j_callTc hJ (c_J0_charAt_5068e_B0 (l := l) (D := D) (cy := cy) (ad := ad) hin) rfl om_1632 ⟨rfl, rfl, Nat.le_of_ble_eq_true rfl, Nat.le_of_ble_eq_true rfl⟩ [.int (Ii x4)] mv_X9_39 hd_J0_charAt_5068ev XtB0_s0 rfl (Nat.le_of_ble_eq_true rfl) dX9_init_77 ⟨x4, rfl, gx4, hF⟩ (fun r4 M5 gr4 qM5 => ?_)
      have hF := qM5 gr4
      refine j_bipush hJ dX9_init_80 (by decide) ?_
      refine j_icmp_eq hJ 106 gr4 rk_32 dX9_init_82 (by decide) (fun z6 => ?_) (fun z6 => ?_)
      · have hF := hF.1 z6
        refine j_iload_n hJ dX9_init_106 rfl 1 rfl ?_
        refine j_bipush hJ dX9_init_107 (by decide) ?_
        refine j_icmp_ge hJ 124 gx1 rk_29 dX9_init_109 (by decide) (fun z7 => ?_) (fun z7 => ?_)
        · have hF := hF.1 z7
          exact j_sub hJ [0, 1, 2, 3] rfl (k_X9_init_b124 hin hk1 hk_keywords hJ ih x1 x2 x4 _ gx1 gx2 gx4 hF)
        · have hF := hF.2 z7
          refine j_aload_n hJ dX9_init_112 rfl 0 rfl ?_
          refine j_gq (v := 7) hJ hk1 fB_12_3 rfl fl_X9_28 dX9_init_113 hF.1 ?_
          have hF := hF.2
          refine j_iload_n hJ dX9_init_116 rfl 1 rfl ?_
          refine j_lload_n hJ dX9_init_117 rfl 2 rfl ?_
          refine j_last hJ gx1 gx2 hk_keywords hF.1 hF.2.1 dX9_init_118 (fun M8 eM8 => ?_)
          have hF := hF.2.2 M8 eM8
          refine j_lconst (x := 0) hJ dX9_init_119 rfl ?_
          refine j_lstore_n (lv' := [(2, .long (Ll 0)), (0, .ref (ad 1)), (1, .int (Ii x1)), (4, .int (Ii x4))]) hJ dX9_init_120 rfl (by decide) rfl ?_
          refine j_iinc (lv' := [(1, .int (Ii (x1 + 1))), (2, .long (Ll 0)), (0, .ref (ad 1)), (4, .int (Ii x4))]) (k := 2) hJ dX9_init_121 rfl (by decide) rfl ?_
          have g9 := hF.1; have hF := hF.2
          exact j_sub hJ [2, 0, 1, 3] rfl (k_X9_init_b124 hin hk1 hk_keywords hJ ih (x1 + 1) 0 x4 _ g9 lkm_0 gx4 hF)
      · have hF := hF.2 z6
        refine j_lload_n hJ dX9_init_85 rfl 2 rfl ?_
        refine j_ldc2 hJ 64 om_579 (by decide) dX9_init_86 ?_
        refine j_lmulw hJ dX9_init_89 ?_
        refine j_ldcS hJ XtB0_s1 dX9_init_90 ?_
        refine j_iload hJ dX9_init_92 3 rfl ?_
        refine j_callTc hJ (c_J0_charAt_5068e_B0 (l := l) (D := D) (cy := cy) (ad := ad) hin) rfl om_1632 ⟨rfl, rfl, Nat.le_of_ble_eq_true rfl, Nat.le_of_ble_eq_true rfl⟩ [.int (Ii x4)] mv_X9_39 hd_J0_charAt_5068ev XtB0_s0 rfl (Nat.le_of_ble_eq_true rfl) dX9_init_94 ⟨x4, rfl, gx4, hF⟩ (fun r10 M11 gr10 qM11 => ?_)
        have hF := qM11 gr10
        refine j_callSi hJ (c_X9_symbolOf_B (l := l) (D := D) (cy := cy) (ad := ad) hin) rfl om_532 ⟨rfl, rfl, Nat.le_of_ble_eq_true rfl, Nat.le_of_ble_eq_true rfl⟩ [.int (Ii r10)] mv_X9_45 hd_X9_symbolOf rfl (Nat.le_of_ble_eq_true rfl) dX9_init_97 ⟨r10, rfl, gr10, hF⟩ (fun r12 M13 gr12 qM13 => ?_)
        have hF := qM13 gr12
        refine j_i2l hJ gr12 dX9_init_100 ?_
        refine j_laddw hJ dX9_init_101 ?_
        refine j_lstore_n (lv' := [(2, .long (Ll (w64 ((w64 (x2 * 64)) + r12)))), (0, .ref (ad 1)), (1, .int (Ii x1)), (4, .int (Ii x4))]) hJ dX9_init_102 rfl (by decide) rfl ?_
        refine j_goto hJ 124 dX9_init_103 (by decide) ?_
        exact j_sub hJ [1, 2, 0, 3] rfl (k_X9_init_b124 hin hk1 hk_keywords hJ ih x1 (w64 ((w64 (x2 * 64)) + r12)) x4 _ gx1 (rl_w _) gx4 hF)
  intro x1 x2 x4 M gx1 gx2 gx4 hF
  obtain ⟨n, hF⟩ := hF
  exact H9 n x1 x2 x4 M gx1 gx2 gx4 hF
set_option maxHeartbeats 4000000 in
set_option maxRecDepth 100000 in
theorem c_X9_init_1 {l : Launch} {D : va_G} {cy : Nat → ClassId} {ad : Nat → Nat} {xs : Nat → Int} {L b0 : Nat} (had : ∀ k, k < ksK.length → ad k = b0 + k) : jKN l D vwCl (tyB cy) cy ad ftB ksK (XtB ad xs L) yX9_init (.code yX9_init cX9_init 5 none :: Om) ({ frames := 5, cells := 6, slots := jSl ftB ksK 8 - jSl ftB ksK 2, locals := 123 } : Room) b0 2 6 (W_X9_init_1 ad) := by
  refine jKN_of (y := yX9_init) (cc := cX9_init) (nL := 5) (rm := ({ frames := 5, cells := 6, slots := jSl ftB ksK 8 - jSl ftB ksK 2, locals := 123 } : Room)) (own := RX9) (tyB_ok cy) had (XtB_ok ad xs L) Om_good (by decide) rfl rfl ?_
  intro post av M hF
  obtain ⟨rfl, hf, hF⟩ := hF
  refine ⟨Nat.le_of_ble_eq_true rfl, fun p e s m below meth c Qs hc hin2 hret => ?_⟩
  obtain ⟨hx, hb, hml, hown, hts, hK, hty, -, hgo, hXc, hXt, hs⟩ := id hc
  have hO := kj_ok (rm := ({ frames := 5, cells := 6, slots := jSl ftB ksK 8 - jSl ftB ksK 2, locals := 123 } : Room)) (ft := ftB) (Qs := Qs) (i := 0) (rk := 5) (post := fun _ _ => True) hc (by rw [lnK]; decide) (Nat.le_of_ble_eq_true rfl) (jSl_m (by decide)) (Or.inl rfl)
  refine j_aload_n hO dX9_init_0 rfl 0 rfl ?_
  refine kj_obj hx hb hml hts hown ⟨om_1616, om_1612, om_1613⟩ dX9_init_1 (Nat.le_of_ble_eq_true rfl) (Nat.le_of_ble_eq_true rfl) (Nat.le_of_ble_eq_true rfl) ?_
  refine j_aload_n hO dX9_init_4 rfl 0 rfl ?_
  refine j_sipush hO dX9_init_5 (by decide) ?_
  refine kj_ai hx hb hts hK had hs hty.2.1 (n0 := 2) (i := 0) (N := 4000) (n := 2) (i1 := 1) rfl rfl kK_2 rfl (by decide) om_1617 dX9_init_8 (Nat.le_of_ble_eq_true rfl) (jSl_m (by decide)) hf ?_
  have hf := jFr_w (n' := 3) hf (by decide)
  have hO := kj_ok (rm := ({ frames := 5, cells := 6, slots := jSl ftB ksK 8 - jSl ftB ksK 2, locals := 123 } : Room)) (ft := ftB) (Qs := Qs) (i := 1) (rk := 5) (post := fun _ _ => True) hc (by rw [lnK]; decide) (Nat.le_of_ble_eq_true rfl) (jSl_m (by decide)) (Or.inl rfl)
  refine kj_pqa hx hb hts hK had hs hown hin2 (n0 := 2) (i := 1) (v := 2) (by rw [lnK]; decide) (by unfold ri_; omega) (tkk kK_1 (by decide)) fB_12_0 rfl ff_X9_11 dX9_init_10 (fun M1 e1 => ?_)
  subst e1
  have hf := jFr_up (c := 1) (i := 0) (v := ((2 : Nat) : Int)) hf (by decide)
  refine j_aload_n hO dX9_init_13 rfl 0 rfl ?_
  refine j_bipush hO dX9_init_14 (by decide) ?_
  refine kj_ai hx hb hts hK had hs hty.2.1 (n0 := 2) (i := 1) (N := 20) (n := 3) (i1 := 2) rfl rfl kK_3 rfl (by decide) om_1617 dX9_init_16 (Nat.le_of_ble_eq_true rfl) (jSl_m (by decide)) hf ?_
  have hf := jFr_w (n' := 4) hf (by decide)
  have hO := kj_ok (rm := ({ frames := 5, cells := 6, slots := jSl ftB ksK 8 - jSl ftB ksK 2, locals := 123 } : Room)) (ft := ftB) (Qs := Qs) (i := 2) (rk := 5) (post := fun _ _ => True) hc (by rw [lnK]; decide) (Nat.le_of_ble_eq_true rfl) (jSl_m (by decide)) (Or.inl rfl)
  refine kj_pqa hx hb hts hK had hs hown hin2 (n0 := 2) (i := 2) (v := 3) (by rw [lnK]; decide) (by unfold ri_; omega) (tkk kK_1 (by decide)) fB_12_2 rfl ff_X9_15 dX9_init_18 (fun M1 e1 => ?_)
  subst e1
  have hf := jFr_up (c := 1) (i := 2) (v := ((3 : Nat) : Int)) hf (by decide)
  refine j_aload_n hO dX9_init_21 rfl 0 rfl ?_
  refine j_sipush hO dX9_init_22 (by decide) ?_
  refine kj_ai hx hb hts hK had hs hty.2.1 (n0 := 2) (i := 2) (N := 4001) (n := 4) (i1 := 3) rfl rfl kK_4 rfl (by decide) om_1617 dX9_init_25 (Nat.le_of_ble_eq_true rfl) (jSl_m (by decide)) hf ?_
  have hf := jFr_w (n' := 5) hf (by decide)
  have hO := kj_ok (rm := ({ frames := 5, cells := 6, slots := jSl ftB ksK 8 - jSl ftB ksK 2, locals := 123 } : Room)) (ft := ftB) (Qs := Qs) (i := 3) (rk := 5) (post := fun _ _ => True) hc (by rw [lnK]; decide) (Nat.le_of_ble_eq_true rfl) (jSl_m (by decide)) (Or.inl rfl)
  refine kj_pqa hx hb hts hK had hs hown hin2 (n0 := 2) (i := 3) (v := 4) (by rw [lnK]; decide) (by unfold ri_; omega) (tkk kK_1 (by decide)) fB_12_5 rfl ff_X9_18 dX9_init_27 (fun M1 e1 => ?_)
  subst e1
  have hf := jFr_up (c := 1) (i := 5) (v := ((4 : Nat) : Int)) hf (by decide)
  refine j_aload_n hO dX9_init_30 rfl 0 rfl ?_
  refine j_sipush hO dX9_init_31 (by decide) ?_
  refine kj_ai hx hb hts hK had hs hty.2.1 (n0 := 2) (i := 3) (N := 4001) (n := 5) (i1 := 4) rfl rfl kK_5 rfl (by decide) om_1617 dX9_init_34 (Nat.le_of_ble_eq_true rfl) (jSl_m (by decide)) hf ?_
  have hf := jFr_w (n' := 6) hf (by decide)
  have hO := kj_ok (rm := ({ frames := 5, cells := 6, slots := jSl ftB ksK 8 - jSl ftB ksK 2, locals := 123 } : Room)) (ft := ftB) (Qs := Qs) (i := 4) (rk := 5) (post := fun _ _ => True) hc (by rw [lnK]; decide) (Nat.le_of_ble_eq_true rfl) (jSl_m (by decide)) (Or.inl rfl)
  refine kj_pqa hx hb hts hK had hs hown hin2 (n0 := 2) (i := 4) (v := 5) (by rw [lnK]; decide) (by unfold ri_; omega) (tkk kK_1 (by decide)) fB_12_6 rfl ff_X9_21 dX9_init_36 (fun M1 e1 => ?_)
  subst e1
  have hf := jFr_up (c := 1) (i := 6) (v := ((5 : Nat) : Int)) hf (by decide)
  refine j_aload_n hO dX9_init_39 rfl 0 rfl ?_
  refine j_sipush hO dX9_init_40 (by decide) ?_
  refine kj_al hx hb hts hK had hs hty.2.2.1 (n0 := 2) (i := 4) (N := 4001) (n := 6) (i1 := 5) rfl rfl kK_6 rfl (by decide) om_1622 dX9_init_43 (Nat.le_of_ble_eq_true rfl) (jSl_m (by decide)) hf ?_
  have hf := jFr_w (n' := 7) hf (by decide)
  have hO := kj_ok (rm := ({ frames := 5, cells := 6, slots := jSl ftB ksK 8 - jSl ftB ksK 2, locals := 123 } : Room)) (ft := ftB) (Qs := Qs) (i := 5) (rk := 5) (post := fun _ _ => True) hc (by rw [lnK]; decide) (Nat.le_of_ble_eq_true rfl) (jSl_m (by decide)) (Or.inl rfl)
  refine kj_pqa hx hb hts hK had hs hown hin2 (n0 := 2) (i := 5) (v := 6) (by rw [lnK]; decide) (by unfold ri_; omega) (tkk kK_1 (by decide)) fB_12_7 rfl ff_X9_24 dX9_init_45 (fun M1 e1 => ?_)
  subst e1
  have hf := jFr_up (c := 1) (i := 7) (v := ((6 : Nat) : Int)) hf (by decide)
  refine j_aload_n hO dX9_init_48 rfl 0 rfl ?_
  refine j_bipush hO dX9_init_49 (by decide) ?_
  refine kj_al hx hb hts hK had hs hty.2.2.1 (n0 := 2) (i := 5) (N := 29) (n := 7) (i1 := 6) rfl rfl kK_7 rfl (by decide) om_1622 dX9_init_51 (Nat.le_of_ble_eq_true rfl) (jSl_m (by decide)) hf ?_
  have hf := jFr_w (n' := 8) hf (by decide)
  have hO := kj_ok (rm := ({ frames := 5, cells := 6, slots := jSl ftB ksK 8 - jSl ftB ksK 2, locals := 123 } : Room)) (ft := ftB) (Qs := Qs) (i := 6) (rk := 5) (post := fun _ _ => True) hc (by rw [lnK]; decide) (Nat.le_of_ble_eq_true rfl) (jSl_m (by decide)) (Or.inl rfl)
  refine kj_pqa hx hb hts hK had hs hown hin2 (n0 := 2) (i := 6) (v := 7) (by rw [lnK]; decide) (by unfold ri_; omega) (tkk kK_1 (by decide)) fB_12_3 rfl ff_X9_28 dX9_init_53 (fun M1 e1 => ?_)
  subst e1
  have hf := jFr_up (c := 1) (i := 3) (v := ((7 : Nat) : Int)) hf (by decide)
  refine j_iconst hO dX9_init_56 ?_
  refine j_istore_n (lv' := [(1, .int (Ii 0)), (0, .ref (ad 1))]) hO dX9_init_57 rfl (by decide) rfl ?_
  refine j_lconst (x := 0) hO dX9_init_58 rfl ?_
  refine j_lstore_n (lv' := [(2, .long (Ll 0)), (1, .int (Ii 0)), (0, .ref (ad 1))]) hO dX9_init_59 rfl (by decide) rfl ?_
  refine j_iconst hO dX9_init_60 ?_
  refine j_istore (lv' := [(4, .int (Ii 0)), (2, .long (Ll 0)), (1, .int (Ii 0)), (0, .ref (ad 1))]) hO dX9_init_61 (by decide) rfl ?_
  have hO := kj_ok (rm := ({ frames := 5, cells := 6, slots := jSl ftB ksK 8 - jSl ftB ksK 2, locals := 123 } : Room)) (ft := ftB) (Qs := Qs) (i := 6) (rk := 0) (post := fun _ u => post u) hc (by rw [lnK]; decide) (Nat.le_of_ble_eq_true rfl) (jSl_m (by decide)) (Or.inr ⟨rfl, fun pc lv M hd hq => hret pc lv M hd hq⟩)
  refine j_sub hO [3, 2, 1, 0] rfl (k_X9_init_b63 (xs := xs) (L := L) (by rw [tkl (by rw [lnK]; decide)]; exact jIn_b (fun k hk => had k (by rw [lnK]; omega))) (tkk kK_1 (by decide)) (tkk kK_7 (by decide)) hO 0 0 0 _ rk_0 lkm_0 rk_0 (p_X9 (by rfl) hF))
set_option maxHeartbeats 4000000 in
set_option maxRecDepth 100000 in
theorem c_X10_init_8 {l : Launch} {D : va_G} {cy : Nat → ClassId} {ad : Nat → Nat} {xs : Nat → Int} {L b0 : Nat} (had : ∀ k, k < ksK.length → ad k = b0 + k) : jKN l D vwCl (tyB cy) cy ad ftB ksK (XtB ad xs L) yX10_init (.code yX10_init cX10_init 1 none :: Om) ({ frames := 1, cells := 17, slots := jSl ftB ksK 26 - jSl ftB ksK 9, locals := 20 } : Room) b0 9 17 (W_X10_init_8 ad) := by
  refine jKN_of (y := yX10_init) (cc := cX10_init) (nL := 1) (rm := ({ frames := 1, cells := 17, slots := jSl ftB ksK 26 - jSl ftB ksK 9, locals := 20 } : Room)) (own := RX10) (tyB_ok cy) had (XtB_ok ad xs L) Om_good (by decide) rfl rfl ?_
  intro post av M hF
  obtain ⟨rfl, hf, hF⟩ := hF
  refine ⟨Nat.le_of_ble_eq_true rfl, fun p e s m below meth c Qs hc hin2 hret => ?_⟩
  obtain ⟨hx, hb, hml, hown, hts, hK, hty, -, hgo, hXc, hXt, hs⟩ := id hc
  have hO := kj_ok (rm := ({ frames := 1, cells := 17, slots := jSl ftB ksK 26 - jSl ftB ksK 9, locals := 20 } : Room)) (ft := ftB) (Qs := Qs) (i := 0) (rk := 5) (post := fun _ _ => True) hc (by rw [lnK]; decide) (Nat.le_of_ble_eq_true rfl) (jSl_m (by decide)) (Or.inl rfl)
  refine j_aload_n hO dX10_init_0 rfl 0 rfl ?_
  refine kj_obj hx hb hml hts hown ⟨om_1642, om_1612, om_1613⟩ dX10_init_1 (Nat.le_of_ble_eq_true rfl) (Nat.le_of_ble_eq_true rfl) (Nat.le_of_ble_eq_true rfl) ?_
  refine j_aload_n hO dX10_init_4 rfl 0 rfl ?_
  refine j_bipush hO dX10_init_5 (by decide) ?_
  refine kj_al hx hb hts hK had hs hty.2.2.1 (n0 := 9) (i := 0) (N := 16) (n := 9) (i1 := 1) rfl rfl kK_9 rfl (by decide) om_1622 dX10_init_7 (Nat.le_of_ble_eq_true rfl) (jSl_m (by decide)) hf ?_
  have hf := jFr_w (n' := 10) hf (by decide)
  have hO := kj_ok (rm := ({ frames := 1, cells := 17, slots := jSl ftB ksK 26 - jSl ftB ksK 9, locals := 20 } : Room)) (ft := ftB) (Qs := Qs) (i := 1) (rk := 5) (post := fun _ _ => True) hc (by rw [lnK]; decide) (Nat.le_of_ble_eq_true rfl) (jSl_m (by decide)) (Or.inl rfl)
  refine kj_pqa hx hb hts hK had hs hown hin2 (n0 := 9) (i := 1) (v := 9) (by rw [lnK]; decide) (by unfold ri_; omega) (tkk kK_8 (by decide)) fB_13_1 rfl ff_X10_11 dX10_init_9 (fun M1 e1 => ?_)
  subst e1
  have hf := jFr_up (c := 8) (i := 1) (v := ((9 : Nat) : Int)) hf (by decide)
  refine j_aload_n hO dX10_init_12 rfl 0 rfl ?_
  refine j_bipush hO dX10_init_13 (by decide) ?_
  refine kj_ai hx hb hts hK had hs hty.2.1 (n0 := 9) (i := 1) (N := 16) (n := 10) (i1 := 2) rfl rfl kK_10 rfl (by decide) om_1617 dX10_init_15 (Nat.le_of_ble_eq_true rfl) (jSl_m (by decide)) hf ?_
  have hf := jFr_w (n' := 11) hf (by decide)
  have hO := kj_ok (rm := ({ frames := 1, cells := 17, slots := jSl ftB ksK 26 - jSl ftB ksK 9, locals := 20 } : Room)) (ft := ftB) (Qs := Qs) (i := 2) (rk := 5) (post := fun _ _ => True) hc (by rw [lnK]; decide) (Nat.le_of_ble_eq_true rfl) (jSl_m (by decide)) (Or.inl rfl)
  refine kj_pqa hx hb hts hK had hs hown hin2 (n0 := 9) (i := 2) (v := 10) (by rw [lnK]; decide) (by unfold ri_; omega) (tkk kK_8 (by decide)) fB_13_2 rfl ff_X10_15 dX10_init_17 (fun M1 e1 => ?_)
  subst e1
  have hf := jFr_up (c := 8) (i := 2) (v := ((10 : Nat) : Int)) hf (by decide)
  refine j_aload_n hO dX10_init_20 rfl 0 rfl ?_
  refine j_bipush hO dX10_init_21 (by decide) ?_
  refine kj_ai hx hb hts hK had hs hty.2.1 (n0 := 9) (i := 2) (N := 16) (n := 11) (i1 := 3) rfl rfl kK_11 rfl (by decide) om_1617 dX10_init_23 (Nat.le_of_ble_eq_true rfl) (jSl_m (by decide)) hf ?_
  have hf := jFr_w (n' := 12) hf (by decide)
  have hO := kj_ok (rm := ({ frames := 1, cells := 17, slots := jSl ftB ksK 26 - jSl ftB ksK 9, locals := 20 } : Room)) (ft := ftB) (Qs := Qs) (i := 3) (rk := 5) (post := fun _ _ => True) hc (by rw [lnK]; decide) (Nat.le_of_ble_eq_true rfl) (jSl_m (by decide)) (Or.inl rfl)
  refine kj_pqa hx hb hts hK had hs hown hin2 (n0 := 9) (i := 3) (v := 11) (by rw [lnK]; decide) (by unfold ri_; omega) (tkk kK_8 (by decide)) fB_13_3 rfl ff_X10_19 dX10_init_25 (fun M1 e1 => ?_)
  subst e1
  have hf := jFr_up (c := 8) (i := 3) (v := ((11 : Nat) : Int)) hf (by decide)
  refine j_aload_n hO dX10_init_28 rfl 0 rfl ?_
  refine j_bipush hO dX10_init_29 (by decide) ?_
  refine kj_az hx hb hts hK had hs hty.2.2.2 (n0 := 9) (i := 3) (N := 16) (n := 12) (i1 := 4) rfl rfl kK_12 rfl (by decide) om_1646 dX10_init_31 (Nat.le_of_ble_eq_true rfl) (jSl_m (by decide)) hf ?_
  have hf := jFr_w (n' := 13) hf (by decide)
  have hO := kj_ok (rm := ({ frames := 1, cells := 17, slots := jSl ftB ksK 26 - jSl ftB ksK 9, locals := 20 } : Room)) (ft := ftB) (Qs := Qs) (i := 4) (rk := 5) (post := fun _ _ => True) hc (by rw [lnK]; decide) (Nat.le_of_ble_eq_true rfl) (jSl_m (by decide)) (Or.inl rfl)
  refine kj_pqa hx hb hts hK had hs hown hin2 (n0 := 9) (i := 4) (v := 12) (by rw [lnK]; decide) (by unfold ri_; omega) (tkk kK_8 (by decide)) fB_13_4 rfl ff_X10_22 dX10_init_33 (fun M1 e1 => ?_)
  subst e1
  have hf := jFr_up (c := 8) (i := 4) (v := ((12 : Nat) : Int)) hf (by decide)
  refine j_aload_n hO dX10_init_36 rfl 0 rfl ?_
  refine j_bipush hO dX10_init_37 (by decide) ?_
  refine kj_az hx hb hts hK had hs hty.2.2.2 (n0 := 9) (i := 4) (N := 16) (n := 13) (i1 := 5) rfl rfl kK_13 rfl (by decide) om_1646 dX10_init_39 (Nat.le_of_ble_eq_true rfl) (jSl_m (by decide)) hf ?_
  have hf := jFr_w (n' := 14) hf (by decide)
  have hO := kj_ok (rm := ({ frames := 1, cells := 17, slots := jSl ftB ksK 26 - jSl ftB ksK 9, locals := 20 } : Room)) (ft := ftB) (Qs := Qs) (i := 5) (rk := 5) (post := fun _ _ => True) hc (by rw [lnK]; decide) (Nat.le_of_ble_eq_true rfl) (jSl_m (by decide)) (Or.inl rfl)
  refine kj_pqa hx hb hts hK had hs hown hin2 (n0 := 9) (i := 5) (v := 13) (by rw [lnK]; decide) (by unfold ri_; omega) (tkk kK_8 (by decide)) fB_13_5 rfl ff_X10_26 dX10_init_41 (fun M1 e1 => ?_)
  subst e1
  have hf := jFr_up (c := 8) (i := 5) (v := ((13 : Nat) : Int)) hf (by decide)
  refine j_aload_n hO dX10_init_44 rfl 0 rfl ?_
  refine j_bipush hO dX10_init_45 (by decide) ?_
  refine kj_ai hx hb hts hK had hs hty.2.1 (n0 := 9) (i := 5) (N := 16) (n := 14) (i1 := 6) rfl rfl kK_14 rfl (by decide) om_1617 dX10_init_47 (Nat.le_of_ble_eq_true rfl) (jSl_m (by decide)) hf ?_
  have hf := jFr_w (n' := 15) hf (by decide)
  have hO := kj_ok (rm := ({ frames := 1, cells := 17, slots := jSl ftB ksK 26 - jSl ftB ksK 9, locals := 20 } : Room)) (ft := ftB) (Qs := Qs) (i := 6) (rk := 5) (post := fun _ _ => True) hc (by rw [lnK]; decide) (Nat.le_of_ble_eq_true rfl) (jSl_m (by decide)) (Or.inl rfl)
  refine kj_pqa hx hb hts hK had hs hown hin2 (n0 := 9) (i := 6) (v := 14) (by rw [lnK]; decide) (by unfold ri_; omega) (tkk kK_8 (by decide)) fB_13_6 rfl ff_X10_29 dX10_init_49 (fun M1 e1 => ?_)
  subst e1
  have hf := jFr_up (c := 8) (i := 6) (v := ((14 : Nat) : Int)) hf (by decide)
  refine j_aload_n hO dX10_init_52 rfl 0 rfl ?_
  refine j_bipush hO dX10_init_53 (by decide) ?_
  refine kj_ai hx hb hts hK had hs hty.2.1 (n0 := 9) (i := 6) (N := 16) (n := 15) (i1 := 7) rfl rfl kK_15 rfl (by decide) om_1617 dX10_init_55 (Nat.le_of_ble_eq_true rfl) (jSl_m (by decide)) hf ?_
  have hf := jFr_w (n' := 16) hf (by decide)
  have hO := kj_ok (rm := ({ frames := 1, cells := 17, slots := jSl ftB ksK 26 - jSl ftB ksK 9, locals := 20 } : Room)) (ft := ftB) (Qs := Qs) (i := 7) (rk := 5) (post := fun _ _ => True) hc (by rw [lnK]; decide) (Nat.le_of_ble_eq_true rfl) (jSl_m (by decide)) (Or.inl rfl)
  refine kj_pqa hx hb hts hK had hs hown hin2 (n0 := 9) (i := 7) (v := 15) (by rw [lnK]; decide) (by unfold ri_; omega) (tkk kK_8 (by decide)) fB_13_7 rfl ff_X10_32 dX10_init_57 (fun M1 e1 => ?_)
  subst e1
  have hf := jFr_up (c := 8) (i := 7) (v := ((15 : Nat) : Int)) hf (by decide)
  refine j_aload_n hO dX10_init_60 rfl 0 rfl ?_
  refine j_bipush hO dX10_init_61 (by decide) ?_
  refine kj_ai hx hb hts hK had hs hty.2.1 (n0 := 9) (i := 7) (N := 16) (n := 16) (i1 := 8) rfl rfl kK_16 rfl (by decide) om_1617 dX10_init_63 (Nat.le_of_ble_eq_true rfl) (jSl_m (by decide)) hf ?_
  have hf := jFr_w (n' := 17) hf (by decide)
  have hO := kj_ok (rm := ({ frames := 1, cells := 17, slots := jSl ftB ksK 26 - jSl ftB ksK 9, locals := 20 } : Room)) (ft := ftB) (Qs := Qs) (i := 8) (rk := 5) (post := fun _ _ => True) hc (by rw [lnK]; decide) (Nat.le_of_ble_eq_true rfl) (jSl_m (by decide)) (Or.inl rfl)
  refine kj_pqa hx hb hts hK had hs hown hin2 (n0 := 9) (i := 8) (v := 16) (by rw [lnK]; decide) (by unfold ri_; omega) (tkk kK_8 (by decide)) fB_13_8 rfl ff_X10_35 dX10_init_65 (fun M1 e1 => ?_)
  subst e1
  have hf := jFr_up (c := 8) (i := 8) (v := ((16 : Nat) : Int)) hf (by decide)
  refine j_aload_n hO dX10_init_68 rfl 0 rfl ?_
  refine j_bipush hO dX10_init_69 (by decide) ?_
  refine kj_ai hx hb hts hK had hs hty.2.1 (n0 := 9) (i := 8) (N := 16) (n := 17) (i1 := 9) rfl rfl kK_17 rfl (by decide) om_1617 dX10_init_71 (Nat.le_of_ble_eq_true rfl) (jSl_m (by decide)) hf ?_
  have hf := jFr_w (n' := 18) hf (by decide)
  have hO := kj_ok (rm := ({ frames := 1, cells := 17, slots := jSl ftB ksK 26 - jSl ftB ksK 9, locals := 20 } : Room)) (ft := ftB) (Qs := Qs) (i := 9) (rk := 5) (post := fun _ _ => True) hc (by rw [lnK]; decide) (Nat.le_of_ble_eq_true rfl) (jSl_m (by decide)) (Or.inl rfl)
  refine kj_pqa hx hb hts hK had hs hown hin2 (n0 := 9) (i := 9) (v := 17) (by rw [lnK]; decide) (by unfold ri_; omega) (tkk kK_8 (by decide)) fB_13_9 rfl ff_X10_38 dX10_init_73 (fun M1 e1 => ?_)
  subst e1
  have hf := jFr_up (c := 8) (i := 9) (v := ((17 : Nat) : Int)) hf (by decide)
  refine j_aload_n hO dX10_init_76 rfl 0 rfl ?_
  refine j_bipush hO dX10_init_77 (by decide) ?_
  refine kj_al hx hb hts hK had hs hty.2.2.1 (n0 := 9) (i := 9) (N := 96) (n := 18) (i1 := 10) rfl rfl kK_18 rfl (by decide) om_1622 dX10_init_79 (Nat.le_of_ble_eq_true rfl) (jSl_m (by decide)) hf ?_
  have hf := jFr_w (n' := 19) hf (by decide)
  have hO := kj_ok (rm := ({ frames := 1, cells := 17, slots := jSl ftB ksK 26 - jSl ftB ksK 9, locals := 20 } : Room)) (ft := ftB) (Qs := Qs) (i := 10) (rk := 5) (post := fun _ _ => True) hc (by rw [lnK]; decide) (Nat.le_of_ble_eq_true rfl) (jSl_m (by decide)) (Or.inl rfl)
  refine kj_pqa hx hb hts hK had hs hown hin2 (n0 := 9) (i := 10) (v := 18) (by rw [lnK]; decide) (by unfold ri_; omega) (tkk kK_8 (by decide)) fB_13_10 rfl ff_X10_41 dX10_init_81 (fun M1 e1 => ?_)
  subst e1
  have hf := jFr_up (c := 8) (i := 10) (v := ((18 : Nat) : Int)) hf (by decide)
  refine j_aload_n hO dX10_init_84 rfl 0 rfl ?_
  refine j_bipush hO dX10_init_85 (by decide) ?_
  refine kj_ai hx hb hts hK had hs hty.2.1 (n0 := 9) (i := 10) (N := 96) (n := 19) (i1 := 11) rfl rfl kK_19 rfl (by decide) om_1617 dX10_init_87 (Nat.le_of_ble_eq_true rfl) (jSl_m (by decide)) hf ?_
  have hf := jFr_w (n' := 20) hf (by decide)
  have hO := kj_ok (rm := ({ frames := 1, cells := 17, slots := jSl ftB ksK 26 - jSl ftB ksK 9, locals := 20 } : Room)) (ft := ftB) (Qs := Qs) (i := 11) (rk := 5) (post := fun _ _ => True) hc (by rw [lnK]; decide) (Nat.le_of_ble_eq_true rfl) (jSl_m (by decide)) (Or.inl rfl)
  refine kj_pqa hx hb hts hK had hs hown hin2 (n0 := 9) (i := 11) (v := 19) (by rw [lnK]; decide) (by unfold ri_; omega) (tkk kK_8 (by decide)) fB_13_11 rfl ff_X10_44 dX10_init_89 (fun M1 e1 => ?_)
  subst e1
  have hf := jFr_up (c := 8) (i := 11) (v := ((19 : Nat) : Int)) hf (by decide)
  refine j_aload_n hO dX10_init_92 rfl 0 rfl ?_
  refine j_bipush hO dX10_init_93 (by decide) ?_
  refine kj_ai hx hb hts hK had hs hty.2.1 (n0 := 9) (i := 11) (N := 96) (n := 20) (i1 := 12) rfl rfl kK_20 rfl (by decide) om_1617 dX10_init_95 (Nat.le_of_ble_eq_true rfl) (jSl_m (by decide)) hf ?_
  have hf := jFr_w (n' := 21) hf (by decide)
  have hO := kj_ok (rm := ({ frames := 1, cells := 17, slots := jSl ftB ksK 26 - jSl ftB ksK 9, locals := 20 } : Room)) (ft := ftB) (Qs := Qs) (i := 12) (rk := 5) (post := fun _ _ => True) hc (by rw [lnK]; decide) (Nat.le_of_ble_eq_true rfl) (jSl_m (by decide)) (Or.inl rfl)
  refine kj_pqa hx hb hts hK had hs hown hin2 (n0 := 9) (i := 12) (v := 20) (by rw [lnK]; decide) (by unfold ri_; omega) (tkk kK_8 (by decide)) fB_13_12 rfl ff_X10_47 dX10_init_97 (fun M1 e1 => ?_)
  subst e1
  have hf := jFr_up (c := 8) (i := 12) (v := ((20 : Nat) : Int)) hf (by decide)
  refine j_aload_n hO dX10_init_100 rfl 0 rfl ?_
  refine j_bipush hO dX10_init_101 (by decide) ?_
  refine kj_az hx hb hts hK had hs hty.2.2.2 (n0 := 9) (i := 12) (N := 96) (n := 21) (i1 := 13) rfl rfl kK_21 rfl (by decide) om_1646 dX10_init_103 (Nat.le_of_ble_eq_true rfl) (jSl_m (by decide)) hf ?_
  have hf := jFr_w (n' := 22) hf (by decide)
  have hO := kj_ok (rm := ({ frames := 1, cells := 17, slots := jSl ftB ksK 26 - jSl ftB ksK 9, locals := 20 } : Room)) (ft := ftB) (Qs := Qs) (i := 13) (rk := 5) (post := fun _ _ => True) hc (by rw [lnK]; decide) (Nat.le_of_ble_eq_true rfl) (jSl_m (by decide)) (Or.inl rfl)
  refine kj_pqa hx hb hts hK had hs hown hin2 (n0 := 9) (i := 13) (v := 21) (by rw [lnK]; decide) (by unfold ri_; omega) (tkk kK_8 (by decide)) fB_13_13 rfl ff_X10_50 dX10_init_105 (fun M1 e1 => ?_)
  subst e1
  have hf := jFr_up (c := 8) (i := 13) (v := ((21 : Nat) : Int)) hf (by decide)
  refine j_aload_n hO dX10_init_108 rfl 0 rfl ?_
  refine j_bipush hO dX10_init_109 (by decide) ?_
  refine kj_ai hx hb hts hK had hs hty.2.1 (n0 := 9) (i := 13) (N := 96) (n := 22) (i1 := 14) rfl rfl kK_22 rfl (by decide) om_1617 dX10_init_111 (Nat.le_of_ble_eq_true rfl) (jSl_m (by decide)) hf ?_
  have hf := jFr_w (n' := 23) hf (by decide)
  have hO := kj_ok (rm := ({ frames := 1, cells := 17, slots := jSl ftB ksK 26 - jSl ftB ksK 9, locals := 20 } : Room)) (ft := ftB) (Qs := Qs) (i := 14) (rk := 5) (post := fun _ _ => True) hc (by rw [lnK]; decide) (Nat.le_of_ble_eq_true rfl) (jSl_m (by decide)) (Or.inl rfl)
  refine kj_pqa hx hb hts hK had hs hown hin2 (n0 := 9) (i := 14) (v := 22) (by rw [lnK]; decide) (by unfold ri_; omega) (tkk kK_8 (by decide)) fB_13_14 rfl ff_X10_53 dX10_init_113 (fun M1 e1 => ?_)
  subst e1
  have hf := jFr_up (c := 8) (i := 14) (v := ((22 : Nat) : Int)) hf (by decide)
  refine j_aload_n hO dX10_init_116 rfl 0 rfl ?_
  refine j_sipush hO dX10_init_117 (by decide) ?_
  refine kj_al hx hb hts hK had hs hty.2.2.1 (n0 := 9) (i := 14) (N := 1536) (n := 23) (i1 := 15) rfl rfl kK_23 rfl (by decide) om_1622 dX10_init_120 (Nat.le_of_ble_eq_true rfl) (jSl_m (by decide)) hf ?_
  have hf := jFr_w (n' := 24) hf (by decide)
  have hO := kj_ok (rm := ({ frames := 1, cells := 17, slots := jSl ftB ksK 26 - jSl ftB ksK 9, locals := 20 } : Room)) (ft := ftB) (Qs := Qs) (i := 15) (rk := 5) (post := fun _ _ => True) hc (by rw [lnK]; decide) (Nat.le_of_ble_eq_true rfl) (jSl_m (by decide)) (Or.inl rfl)
  refine kj_pqa hx hb hts hK had hs hown hin2 (n0 := 9) (i := 15) (v := 23) (by rw [lnK]; decide) (by unfold ri_; omega) (tkk kK_8 (by decide)) fB_13_15 rfl ff_X10_56 dX10_init_122 (fun M1 e1 => ?_)
  subst e1
  have hf := jFr_up (c := 8) (i := 15) (v := ((23 : Nat) : Int)) hf (by decide)
  refine j_aload_n hO dX10_init_125 rfl 0 rfl ?_
  refine j_sipush hO dX10_init_126 (by decide) ?_
  refine kj_ai hx hb hts hK had hs hty.2.1 (n0 := 9) (i := 15) (N := 1536) (n := 24) (i1 := 16) rfl rfl kK_24 rfl (by decide) om_1617 dX10_init_129 (Nat.le_of_ble_eq_true rfl) (jSl_m (by decide)) hf ?_
  have hf := jFr_w (n' := 25) hf (by decide)
  have hO := kj_ok (rm := ({ frames := 1, cells := 17, slots := jSl ftB ksK 26 - jSl ftB ksK 9, locals := 20 } : Room)) (ft := ftB) (Qs := Qs) (i := 16) (rk := 5) (post := fun _ _ => True) hc (by rw [lnK]; decide) (Nat.le_of_ble_eq_true rfl) (jSl_m (by decide)) (Or.inl rfl)
  refine kj_pqa hx hb hts hK had hs hown hin2 (n0 := 9) (i := 16) (v := 24) (by rw [lnK]; decide) (by unfold ri_; omega) (tkk kK_8 (by decide)) fB_13_16 rfl ff_X10_59 dX10_init_131 (fun M1 e1 => ?_)
  subst e1
  have hf := jFr_up (c := 8) (i := 16) (v := ((24 : Nat) : Int)) hf (by decide)
  refine j_aload_n hO dX10_init_134 rfl 0 rfl ?_
  refine j_sipush hO dX10_init_135 (by decide) ?_
  refine kj_ai hx hb hts hK had hs hty.2.1 (n0 := 9) (i := 16) (N := 1536) (n := 25) (i1 := 17) rfl rfl kK_25 rfl (by decide) om_1617 dX10_init_138 (Nat.le_of_ble_eq_true rfl) (jSl_m (by decide)) hf ?_
  have hf := jFr_w (n' := 26) hf (by decide)
  have hO := kj_ok (rm := ({ frames := 1, cells := 17, slots := jSl ftB ksK 26 - jSl ftB ksK 9, locals := 20 } : Room)) (ft := ftB) (Qs := Qs) (i := 17) (rk := 5) (post := fun _ _ => True) hc (by rw [lnK]; decide) (Nat.le_of_ble_eq_true rfl) (jSl_m (by decide)) (Or.inl rfl)
  refine kj_pqa hx hb hts hK had hs hown hin2 (n0 := 9) (i := 17) (v := 25) (by rw [lnK]; decide) (by unfold ri_; omega) (tkk kK_8 (by decide)) fB_13_17 rfl ff_X10_62 dX10_init_140 (fun M1 e1 => ?_)
  subst e1
  have hf := jFr_up (c := 8) (i := 17) (v := ((25 : Nat) : Int)) hf (by decide)
  exact hret _ _ _ dX10_init_143 hF
set_option maxHeartbeats 4000000 in
set_option maxRecDepth 100000 in
theorem c_X2_init_26 {l : Launch} {D : va_G} {cy : Nat → ClassId} {ad : Nat → Nat} {xs : Nat → Int} {L b0 : Nat} (had : ∀ k, k < ksK.length → ad k = b0 + k) : jKN l D vwCl (tyB cy) cy ad ftB ksK (XtB ad xs L) yX2_init (.code yX2_init cX2_init 2 none :: Om) ({ frames := 1, cells := 9, slots := jSl ftB ksK 36 - jSl ftB ksK 27, locals := 20 } : Room) b0 27 9 (W_X2_init_26 ad) := by
  refine jKN_of (y := yX2_init) (cc := cX2_init) (nL := 2) (rm := ({ frames := 1, cells := 9, slots := jSl ftB ksK 36 - jSl ftB ksK 27, locals := 20 } : Room)) (own := RX2) (tyB_ok cy) had (XtB_ok ad xs L) Om_good (by decide) rfl rfl ?_
  intro post av M hF
  obtain ⟨rfl, hf, hF⟩ := hF
  refine ⟨Nat.le_of_ble_eq_true rfl, fun p e s m below meth c Qs hc hin2 hret => ?_⟩
  obtain ⟨hx, hb, hml, hown, hts, hK, hty, -, hgo, hXc, hXt, hs⟩ := id hc
  have hO := kj_ok (rm := ({ frames := 1, cells := 9, slots := jSl ftB ksK 36 - jSl ftB ksK 27, locals := 20 } : Room)) (ft := ftB) (Qs := Qs) (i := 0) (rk := 5) (post := fun _ _ => True) hc (by rw [lnK]; decide) (Nat.le_of_ble_eq_true rfl) (jSl_m (by decide)) (Or.inl rfl)
  refine j_aload_n hO dX2_init_0 rfl 0 rfl ?_
  refine kj_obj hx hb hml hts hown ⟨om_1667, om_1612, om_1613⟩ dX2_init_1 (Nat.le_of_ble_eq_true rfl) (Nat.le_of_ble_eq_true rfl) (Nat.le_of_ble_eq_true rfl) ?_
  refine j_aload_n hO dX2_init_4 rfl 0 rfl ?_
  refine j_aload_n hO dX2_init_5 rfl 1 rfl ?_
  refine kj_pq hx hb hts hK had hs hown hin2 (n0 := 27) (i := 0) (v := 8) (by rw [lnK]; decide) (by unfold ri_; omega) (tkk kK_26 (by decide)) fB_5_0 rfl ff_X2_9 dX2_init_6 (fun M1 e1 => ?_)
  subst e1
  have hf := jFr_up (c := 26) (i := 0) (v := ((8 : Nat) : Int)) hf (by decide)
  refine j_aload_n hO dX2_init_9 rfl 0 rfl ?_
  refine j_sipush hO dX2_init_10 (by decide) ?_
  refine kj_ai hx hb hts hK had hs hty.2.1 (n0 := 27) (i := 0) (N := 400) (n := 27) (i1 := 1) rfl rfl kK_27 rfl (by decide) om_1617 dX2_init_13 (Nat.le_of_ble_eq_true rfl) (jSl_m (by decide)) hf ?_
  have hf := jFr_w (n' := 28) hf (by decide)
  have hO := kj_ok (rm := ({ frames := 1, cells := 9, slots := jSl ftB ksK 36 - jSl ftB ksK 27, locals := 20 } : Room)) (ft := ftB) (Qs := Qs) (i := 1) (rk := 5) (post := fun _ _ => True) hc (by rw [lnK]; decide) (Nat.le_of_ble_eq_true rfl) (jSl_m (by decide)) (Or.inl rfl)
  refine kj_pqa hx hb hts hK had hs hown hin2 (n0 := 27) (i := 1) (v := 27) (by rw [lnK]; decide) (by unfold ri_; omega) (tkk kK_26 (by decide)) fB_5_4 rfl ff_X2_15 dX2_init_15 (fun M1 e1 => ?_)
  subst e1
  have hf := jFr_up (c := 26) (i := 4) (v := ((27 : Nat) : Int)) hf (by decide)
  refine j_aload_n hO dX2_init_18 rfl 0 rfl ?_
  refine j_sipush hO dX2_init_19 (by decide) ?_
  refine kj_ai hx hb hts hK had hs hty.2.1 (n0 := 27) (i := 1) (N := 400) (n := 28) (i1 := 2) rfl rfl kK_28 rfl (by decide) om_1617 dX2_init_22 (Nat.le_of_ble_eq_true rfl) (jSl_m (by decide)) hf ?_
  have hf := jFr_w (n' := 29) hf (by decide)
  have hO := kj_ok (rm := ({ frames := 1, cells := 9, slots := jSl ftB ksK 36 - jSl ftB ksK 27, locals := 20 } : Room)) (ft := ftB) (Qs := Qs) (i := 2) (rk := 5) (post := fun _ _ => True) hc (by rw [lnK]; decide) (Nat.le_of_ble_eq_true rfl) (jSl_m (by decide)) (Or.inl rfl)
  refine kj_pqa hx hb hts hK had hs hown hin2 (n0 := 27) (i := 2) (v := 28) (by rw [lnK]; decide) (by unfold ri_; omega) (tkk kK_26 (by decide)) fB_5_5 rfl ff_X2_19 dX2_init_24 (fun M1 e1 => ?_)
  subst e1
  have hf := jFr_up (c := 26) (i := 5) (v := ((28 : Nat) : Int)) hf (by decide)
  refine j_aload_n hO dX2_init_27 rfl 0 rfl ?_
  refine j_sipush hO dX2_init_28 (by decide) ?_
  refine kj_ai hx hb hts hK had hs hty.2.1 (n0 := 27) (i := 2) (N := 400) (n := 29) (i1 := 3) rfl rfl kK_29 rfl (by decide) om_1617 dX2_init_31 (Nat.le_of_ble_eq_true rfl) (jSl_m (by decide)) hf ?_
  have hf := jFr_w (n' := 30) hf (by decide)
  have hO := kj_ok (rm := ({ frames := 1, cells := 9, slots := jSl ftB ksK 36 - jSl ftB ksK 27, locals := 20 } : Room)) (ft := ftB) (Qs := Qs) (i := 3) (rk := 5) (post := fun _ _ => True) hc (by rw [lnK]; decide) (Nat.le_of_ble_eq_true rfl) (jSl_m (by decide)) (Or.inl rfl)
  refine kj_pqa hx hb hts hK had hs hown hin2 (n0 := 27) (i := 3) (v := 29) (by rw [lnK]; decide) (by unfold ri_; omega) (tkk kK_26 (by decide)) fB_5_6 rfl ff_X2_22 dX2_init_33 (fun M1 e1 => ?_)
  subst e1
  have hf := jFr_up (c := 26) (i := 6) (v := ((29 : Nat) : Int)) hf (by decide)
  refine j_aload_n hO dX2_init_36 rfl 0 rfl ?_
  refine j_sipush hO dX2_init_37 (by decide) ?_
  refine kj_al hx hb hts hK had hs hty.2.2.1 (n0 := 27) (i := 3) (N := 4000) (n := 30) (i1 := 4) rfl rfl kK_30 rfl (by decide) om_1622 dX2_init_40 (Nat.le_of_ble_eq_true rfl) (jSl_m (by decide)) hf ?_
  have hf := jFr_w (n' := 31) hf (by decide)
  have hO := kj_ok (rm := ({ frames := 1, cells := 9, slots := jSl ftB ksK 36 - jSl ftB ksK 27, locals := 20 } : Room)) (ft := ftB) (Qs := Qs) (i := 4) (rk := 5) (post := fun _ _ => True) hc (by rw [lnK]; decide) (Nat.le_of_ble_eq_true rfl) (jSl_m (by decide)) (Or.inl rfl)
  refine kj_pqa hx hb hts hK had hs hown hin2 (n0 := 27) (i := 4) (v := 30) (by rw [lnK]; decide) (by unfold ri_; omega) (tkk kK_26 (by decide)) fB_5_7 rfl ff_X2_25 dX2_init_42 (fun M1 e1 => ?_)
  subst e1
  have hf := jFr_up (c := 26) (i := 7) (v := ((30 : Nat) : Int)) hf (by decide)
  refine j_aload_n hO dX2_init_45 rfl 0 rfl ?_
  refine j_sipush hO dX2_init_46 (by decide) ?_
  refine kj_az hx hb hts hK had hs hty.2.2.2 (n0 := 27) (i := 4) (N := 4000) (n := 31) (i1 := 5) rfl rfl kK_31 rfl (by decide) om_1646 dX2_init_49 (Nat.le_of_ble_eq_true rfl) (jSl_m (by decide)) hf ?_
  have hf := jFr_w (n' := 32) hf (by decide)
  have hO := kj_ok (rm := ({ frames := 1, cells := 9, slots := jSl ftB ksK 36 - jSl ftB ksK 27, locals := 20 } : Room)) (ft := ftB) (Qs := Qs) (i := 5) (rk := 5) (post := fun _ _ => True) hc (by rw [lnK]; decide) (Nat.le_of_ble_eq_true rfl) (jSl_m (by decide)) (Or.inl rfl)
  refine kj_pqa hx hb hts hK had hs hown hin2 (n0 := 27) (i := 5) (v := 31) (by rw [lnK]; decide) (by unfold ri_; omega) (tkk kK_26 (by decide)) fB_5_8 rfl ff_X2_29 dX2_init_51 (fun M1 e1 => ?_)
  subst e1
  have hf := jFr_up (c := 26) (i := 8) (v := ((31 : Nat) : Int)) hf (by decide)
  refine j_aload_n hO dX2_init_54 rfl 0 rfl ?_
  refine j_bipush hO dX2_init_55 (by decide) ?_
  refine kj_al hx hb hts hK had hs hty.2.2.1 (n0 := 27) (i := 5) (N := 96) (n := 32) (i1 := 6) rfl rfl kK_32 rfl (by decide) om_1622 dX2_init_57 (Nat.le_of_ble_eq_true rfl) (jSl_m (by decide)) hf ?_
  have hf := jFr_w (n' := 33) hf (by decide)
  have hO := kj_ok (rm := ({ frames := 1, cells := 9, slots := jSl ftB ksK 36 - jSl ftB ksK 27, locals := 20 } : Room)) (ft := ftB) (Qs := Qs) (i := 6) (rk := 5) (post := fun _ _ => True) hc (by rw [lnK]; decide) (Nat.le_of_ble_eq_true rfl) (jSl_m (by decide)) (Or.inl rfl)
  refine kj_pqa hx hb hts hK had hs hown hin2 (n0 := 27) (i := 6) (v := 32) (by rw [lnK]; decide) (by unfold ri_; omega) (tkk kK_26 (by decide)) fB_5_9 rfl ff_X2_35 dX2_init_59 (fun M1 e1 => ?_)
  subst e1
  have hf := jFr_up (c := 26) (i := 9) (v := ((32 : Nat) : Int)) hf (by decide)
  refine j_aload_n hO dX2_init_62 rfl 0 rfl ?_
  refine j_bipush hO dX2_init_63 (by decide) ?_
  refine kj_ai hx hb hts hK had hs hty.2.1 (n0 := 27) (i := 6) (N := 12) (n := 33) (i1 := 7) rfl rfl kK_33 rfl (by decide) om_1617 dX2_init_65 (Nat.le_of_ble_eq_true rfl) (jSl_m (by decide)) hf ?_
  have hf := jFr_w (n' := 34) hf (by decide)
  have hO := kj_ok (rm := ({ frames := 1, cells := 9, slots := jSl ftB ksK 36 - jSl ftB ksK 27, locals := 20 } : Room)) (ft := ftB) (Qs := Qs) (i := 7) (rk := 5) (post := fun _ _ => True) hc (by rw [lnK]; decide) (Nat.le_of_ble_eq_true rfl) (jSl_m (by decide)) (Or.inl rfl)
  refine kj_pqa hx hb hts hK had hs hown hin2 (n0 := 27) (i := 7) (v := 33) (by rw [lnK]; decide) (by unfold ri_; omega) (tkk kK_26 (by decide)) fB_5_10 rfl ff_X2_38 dX2_init_67 (fun M1 e1 => ?_)
  subst e1
  have hf := jFr_up (c := 26) (i := 10) (v := ((33 : Nat) : Int)) hf (by decide)
  refine j_aload_n hO dX2_init_70 rfl 0 rfl ?_
  refine j_sipush hO dX2_init_71 (by decide) ?_
  refine kj_ai hx hb hts hK had hs hty.2.1 (n0 := 27) (i := 7) (N := 400) (n := 34) (i1 := 8) rfl rfl kK_34 rfl (by decide) om_1617 dX2_init_74 (Nat.le_of_ble_eq_true rfl) (jSl_m (by decide)) hf ?_
  have hf := jFr_w (n' := 35) hf (by decide)
  have hO := kj_ok (rm := ({ frames := 1, cells := 9, slots := jSl ftB ksK 36 - jSl ftB ksK 27, locals := 20 } : Room)) (ft := ftB) (Qs := Qs) (i := 8) (rk := 5) (post := fun _ _ => True) hc (by rw [lnK]; decide) (Nat.le_of_ble_eq_true rfl) (jSl_m (by decide)) (Or.inl rfl)
  refine kj_pqa hx hb hts hK had hs hown hin2 (n0 := 27) (i := 8) (v := 34) (by rw [lnK]; decide) (by unfold ri_; omega) (tkk kK_26 (by decide)) fB_5_12 rfl ff_X2_41 dX2_init_76 (fun M1 e1 => ?_)
  subst e1
  have hf := jFr_up (c := 26) (i := 12) (v := ((34 : Nat) : Int)) hf (by decide)
  refine j_aload_n hO dX2_init_79 rfl 0 rfl ?_
  refine j_sipush hO dX2_init_80 (by decide) ?_
  refine kj_ai hx hb hts hK had hs hty.2.1 (n0 := 27) (i := 8) (N := 400) (n := 35) (i1 := 9) rfl rfl kK_35 rfl (by decide) om_1617 dX2_init_83 (Nat.le_of_ble_eq_true rfl) (jSl_m (by decide)) hf ?_
  have hf := jFr_w (n' := 36) hf (by decide)
  have hO := kj_ok (rm := ({ frames := 1, cells := 9, slots := jSl ftB ksK 36 - jSl ftB ksK 27, locals := 20 } : Room)) (ft := ftB) (Qs := Qs) (i := 9) (rk := 5) (post := fun _ _ => True) hc (by rw [lnK]; decide) (Nat.le_of_ble_eq_true rfl) (jSl_m (by decide)) (Or.inl rfl)
  refine kj_pqa hx hb hts hK had hs hown hin2 (n0 := 27) (i := 9) (v := 35) (by rw [lnK]; decide) (by unfold ri_; omega) (tkk kK_26 (by decide)) fB_5_13 rfl ff_X2_44 dX2_init_85 (fun M1 e1 => ?_)
  subst e1
  have hf := jFr_up (c := 26) (i := 13) (v := ((35 : Nat) : Int)) hf (by decide)
  exact hret _ _ _ dX2_init_88 hF
set_option maxHeartbeats 4000000 in
set_option maxRecDepth 100000 in
theorem c_X3_init_36 {l : Launch} {D : va_G} {cy : Nat → ClassId} {ad : Nat → Nat} {xs : Nat → Int} {L b0 : Nat} (had : ∀ k, k < ksK.length → ad k = b0 + k) : jKN l D vwCl (tyB cy) cy ad ftB ksK (XtB ad xs L) yX3_init (.code yX3_init cX3_init 2 none :: Om) ({ frames := 1, cells := 8, slots := jSl ftB ksK 45 - jSl ftB ksK 37, locals := 20 } : Room) b0 37 8 (W_X3_init_36 ad) := by
  refine jKN_of (y := yX3_init) (cc := cX3_init) (nL := 2) (rm := ({ frames := 1, cells := 8, slots := jSl ftB ksK 45 - jSl ftB ksK 37, locals := 20 } : Room)) (own := RX3) (tyB_ok cy) had (XtB_ok ad xs L) Om_good (by decide) rfl rfl ?_
  intro post av M hF
  obtain ⟨rfl, hf, hF⟩ := hF
  refine ⟨Nat.le_of_ble_eq_true rfl, fun p e s m below meth c Qs hc hin2 hret => ?_⟩
  obtain ⟨hx, hb, hml, hown, hts, hK, hty, -, hgo, hXc, hXt, hs⟩ := id hc
  have hO := kj_ok (rm := ({ frames := 1, cells := 8, slots := jSl ftB ksK 45 - jSl ftB ksK 37, locals := 20 } : Room)) (ft := ftB) (Qs := Qs) (i := 0) (rk := 5) (post := fun _ _ => True) hc (by rw [lnK]; decide) (Nat.le_of_ble_eq_true rfl) (jSl_m (by decide)) (Or.inl rfl)
  refine j_aload_n hO dX3_init_0 rfl 0 rfl ?_
  refine kj_obj hx hb hml hts hown ⟨om_1684, om_1612, om_1613⟩ dX3_init_1 (Nat.le_of_ble_eq_true rfl) (Nat.le_of_ble_eq_true rfl) (Nat.le_of_ble_eq_true rfl) ?_
  refine j_aload_n hO dX3_init_4 rfl 0 rfl ?_
  refine j_aload_n hO dX3_init_5 rfl 1 rfl ?_
  refine kj_pq hx hb hts hK had hs hown hin2 (n0 := 37) (i := 0) (v := 8) (by rw [lnK]; decide) (by unfold ri_; omega) (tkk kK_36 (by decide)) fB_6_0 rfl ff_X3_9 dX3_init_6 (fun M1 e1 => ?_)
  subst e1
  have hf := jFr_up (c := 36) (i := 0) (v := ((8 : Nat) : Int)) hf (by decide)
  refine j_aload_n hO dX3_init_9 rfl 0 rfl ?_
  refine j_bipush hO dX3_init_10 (by decide) ?_
  refine kj_ai hx hb hts hK had hs hty.2.1 (n0 := 37) (i := 0) (N := 100) (n := 37) (i1 := 1) rfl rfl kK_37 rfl (by decide) om_1617 dX3_init_12 (Nat.le_of_ble_eq_true rfl) (jSl_m (by decide)) hf ?_
  have hf := jFr_w (n' := 38) hf (by decide)
  have hO := kj_ok (rm := ({ frames := 1, cells := 8, slots := jSl ftB ksK 45 - jSl ftB ksK 37, locals := 20 } : Room)) (ft := ftB) (Qs := Qs) (i := 1) (rk := 5) (post := fun _ _ => True) hc (by rw [lnK]; decide) (Nat.le_of_ble_eq_true rfl) (jSl_m (by decide)) (Or.inl rfl)
  refine kj_pqa hx hb hts hK had hs hown hin2 (n0 := 37) (i := 1) (v := 37) (by rw [lnK]; decide) (by unfold ri_; omega) (tkk kK_36 (by decide)) fB_6_2 rfl ff_X3_15 dX3_init_14 (fun M1 e1 => ?_)
  subst e1
  have hf := jFr_up (c := 36) (i := 2) (v := ((37 : Nat) : Int)) hf (by decide)
  refine j_aload_n hO dX3_init_17 rfl 0 rfl ?_
  refine j_bipush hO dX3_init_18 (by decide) ?_
  refine kj_ai hx hb hts hK had hs hty.2.1 (n0 := 37) (i := 1) (N := 100) (n := 38) (i1 := 2) rfl rfl kK_38 rfl (by decide) om_1617 dX3_init_20 (Nat.le_of_ble_eq_true rfl) (jSl_m (by decide)) hf ?_
  have hf := jFr_w (n' := 39) hf (by decide)
  have hO := kj_ok (rm := ({ frames := 1, cells := 8, slots := jSl ftB ksK 45 - jSl ftB ksK 37, locals := 20 } : Room)) (ft := ftB) (Qs := Qs) (i := 2) (rk := 5) (post := fun _ _ => True) hc (by rw [lnK]; decide) (Nat.le_of_ble_eq_true rfl) (jSl_m (by decide)) (Or.inl rfl)
  refine kj_pqa hx hb hts hK had hs hown hin2 (n0 := 37) (i := 2) (v := 38) (by rw [lnK]; decide) (by unfold ri_; omega) (tkk kK_36 (by decide)) fB_6_3 rfl ff_X3_19 dX3_init_22 (fun M1 e1 => ?_)
  subst e1
  have hf := jFr_up (c := 36) (i := 3) (v := ((38 : Nat) : Int)) hf (by decide)
  refine j_aload_n hO dX3_init_25 rfl 0 rfl ?_
  refine j_bipush hO dX3_init_26 (by decide) ?_
  refine kj_al hx hb hts hK had hs hty.2.2.1 (n0 := 37) (i := 2) (N := 100) (n := 39) (i1 := 3) rfl rfl kK_39 rfl (by decide) om_1622 dX3_init_28 (Nat.le_of_ble_eq_true rfl) (jSl_m (by decide)) hf ?_
  have hf := jFr_w (n' := 40) hf (by decide)
  have hO := kj_ok (rm := ({ frames := 1, cells := 8, slots := jSl ftB ksK 45 - jSl ftB ksK 37, locals := 20 } : Room)) (ft := ftB) (Qs := Qs) (i := 3) (rk := 5) (post := fun _ _ => True) hc (by rw [lnK]; decide) (Nat.le_of_ble_eq_true rfl) (jSl_m (by decide)) (Or.inl rfl)
  refine kj_pqa hx hb hts hK had hs hown hin2 (n0 := 37) (i := 3) (v := 39) (by rw [lnK]; decide) (by unfold ri_; omega) (tkk kK_36 (by decide)) fB_6_4 rfl ff_X3_22 dX3_init_30 (fun M1 e1 => ?_)
  subst e1
  have hf := jFr_up (c := 36) (i := 4) (v := ((39 : Nat) : Int)) hf (by decide)
  refine j_aload_n hO dX3_init_33 rfl 0 rfl ?_
  refine j_bipush hO dX3_init_34 (by decide) ?_
  refine kj_ai hx hb hts hK had hs hty.2.1 (n0 := 37) (i := 3) (N := 6) (n := 40) (i1 := 4) rfl rfl kK_40 rfl (by decide) om_1617 dX3_init_36 (Nat.le_of_ble_eq_true rfl) (jSl_m (by decide)) hf ?_
  have hf := jFr_w (n' := 41) hf (by decide)
  have hO := kj_ok (rm := ({ frames := 1, cells := 8, slots := jSl ftB ksK 45 - jSl ftB ksK 37, locals := 20 } : Room)) (ft := ftB) (Qs := Qs) (i := 4) (rk := 5) (post := fun _ _ => True) hc (by rw [lnK]; decide) (Nat.le_of_ble_eq_true rfl) (jSl_m (by decide)) (Or.inl rfl)
  refine kj_pqa hx hb hts hK had hs hown hin2 (n0 := 37) (i := 4) (v := 40) (by rw [lnK]; decide) (by unfold ri_; omega) (tkk kK_36 (by decide)) fB_6_8 rfl ff_X3_26 dX3_init_38 (fun M1 e1 => ?_)
  subst e1
  have hf := jFr_up (c := 36) (i := 8) (v := ((40 : Nat) : Int)) hf (by decide)
  refine j_aload_n hO dX3_init_41 rfl 0 rfl ?_
  refine j_bipush hO dX3_init_42 (by decide) ?_
  refine kj_ai hx hb hts hK had hs hty.2.1 (n0 := 37) (i := 4) (N := 6) (n := 41) (i1 := 5) rfl rfl kK_41 rfl (by decide) om_1617 dX3_init_44 (Nat.le_of_ble_eq_true rfl) (jSl_m (by decide)) hf ?_
  have hf := jFr_w (n' := 42) hf (by decide)
  have hO := kj_ok (rm := ({ frames := 1, cells := 8, slots := jSl ftB ksK 45 - jSl ftB ksK 37, locals := 20 } : Room)) (ft := ftB) (Qs := Qs) (i := 5) (rk := 5) (post := fun _ _ => True) hc (by rw [lnK]; decide) (Nat.le_of_ble_eq_true rfl) (jSl_m (by decide)) (Or.inl rfl)
  refine kj_pqa hx hb hts hK had hs hown hin2 (n0 := 37) (i := 5) (v := 41) (by rw [lnK]; decide) (by unfold ri_; omega) (tkk kK_36 (by decide)) fB_6_9 rfl ff_X3_29 dX3_init_46 (fun M1 e1 => ?_)
  subst e1
  have hf := jFr_up (c := 36) (i := 9) (v := ((41 : Nat) : Int)) hf (by decide)
  refine j_aload_n hO dX3_init_49 rfl 0 rfl ?_
  refine j_bipush hO dX3_init_50 (by decide) ?_
  refine kj_ai hx hb hts hK had hs hty.2.1 (n0 := 37) (i := 5) (N := 6) (n := 42) (i1 := 6) rfl rfl kK_42 rfl (by decide) om_1617 dX3_init_52 (Nat.le_of_ble_eq_true rfl) (jSl_m (by decide)) hf ?_
  have hf := jFr_w (n' := 43) hf (by decide)
  have hO := kj_ok (rm := ({ frames := 1, cells := 8, slots := jSl ftB ksK 45 - jSl ftB ksK 37, locals := 20 } : Room)) (ft := ftB) (Qs := Qs) (i := 6) (rk := 5) (post := fun _ _ => True) hc (by rw [lnK]; decide) (Nat.le_of_ble_eq_true rfl) (jSl_m (by decide)) (Or.inl rfl)
  refine kj_pqa hx hb hts hK had hs hown hin2 (n0 := 37) (i := 6) (v := 42) (by rw [lnK]; decide) (by unfold ri_; omega) (tkk kK_36 (by decide)) fB_6_10 rfl ff_X3_32 dX3_init_54 (fun M1 e1 => ?_)
  subst e1
  have hf := jFr_up (c := 36) (i := 10) (v := ((42 : Nat) : Int)) hf (by decide)
  refine j_aload_n hO dX3_init_57 rfl 0 rfl ?_
  refine j_bipush hO dX3_init_58 (by decide) ?_
  refine kj_ai hx hb hts hK had hs hty.2.1 (n0 := 37) (i := 6) (N := 6) (n := 43) (i1 := 7) rfl rfl kK_43 rfl (by decide) om_1617 dX3_init_60 (Nat.le_of_ble_eq_true rfl) (jSl_m (by decide)) hf ?_
  have hf := jFr_w (n' := 44) hf (by decide)
  have hO := kj_ok (rm := ({ frames := 1, cells := 8, slots := jSl ftB ksK 45 - jSl ftB ksK 37, locals := 20 } : Room)) (ft := ftB) (Qs := Qs) (i := 7) (rk := 5) (post := fun _ _ => True) hc (by rw [lnK]; decide) (Nat.le_of_ble_eq_true rfl) (jSl_m (by decide)) (Or.inl rfl)
  refine kj_pqa hx hb hts hK had hs hown hin2 (n0 := 37) (i := 7) (v := 43) (by rw [lnK]; decide) (by unfold ri_; omega) (tkk kK_36 (by decide)) fB_6_11 rfl ff_X3_35 dX3_init_62 (fun M1 e1 => ?_)
  subst e1
  have hf := jFr_up (c := 36) (i := 11) (v := ((43 : Nat) : Int)) hf (by decide)
  refine j_aload_n hO dX3_init_65 rfl 0 rfl ?_
  refine j_sipush hO dX3_init_66 (by decide) ?_
  refine kj_al hx hb hts hK had hs hty.2.2.1 (n0 := 37) (i := 7) (N := 144) (n := 44) (i1 := 8) rfl rfl kK_44 rfl (by decide) om_1622 dX3_init_69 (Nat.le_of_ble_eq_true rfl) (jSl_m (by decide)) hf ?_
  have hf := jFr_w (n' := 45) hf (by decide)
  have hO := kj_ok (rm := ({ frames := 1, cells := 8, slots := jSl ftB ksK 45 - jSl ftB ksK 37, locals := 20 } : Room)) (ft := ftB) (Qs := Qs) (i := 8) (rk := 5) (post := fun _ _ => True) hc (by rw [lnK]; decide) (Nat.le_of_ble_eq_true rfl) (jSl_m (by decide)) (Or.inl rfl)
  refine kj_pqa hx hb hts hK had hs hown hin2 (n0 := 37) (i := 8) (v := 44) (by rw [lnK]; decide) (by unfold ri_; omega) (tkk kK_36 (by decide)) fB_6_12 rfl ff_X3_38 dX3_init_71 (fun M1 e1 => ?_)
  subst e1
  have hf := jFr_up (c := 36) (i := 12) (v := ((44 : Nat) : Int)) hf (by decide)
  exact hret _ _ _ dX3_init_74 hF
set_option maxHeartbeats 4000000 in
set_option maxRecDepth 100000 in
theorem c_X8_init_64 {l : Launch} {D : va_G} {cy : Nat → ClassId} {ad : Nat → Nat} {xs : Nat → Int} {L b0 : Nat} (had : ∀ k, k < ksK.length → ad k = b0 + k) : jKN l D vwCl (tyB cy) cy ad ftB ksK (XtB ad xs L) yX8_init (.code yX8_init cX8_init 2 none :: Om) ({ frames := 1, cells := 14, slots := jSl ftB ksK 79 - jSl ftB ksK 65, locals := 20 } : Room) b0 65 14 (W_X8_init_64 ad) := by
  refine jKN_of (y := yX8_init) (cc := cX8_init) (nL := 2) (rm := ({ frames := 1, cells := 14, slots := jSl ftB ksK 79 - jSl ftB ksK 65, locals := 20 } : Room)) (own := RX8) (tyB_ok cy) had (XtB_ok ad xs L) Om_good (by decide) rfl rfl ?_
  intro post av M hF
  obtain ⟨rfl, hf, hF⟩ := hF
  refine ⟨Nat.le_of_ble_eq_true rfl, fun p e s m below meth c Qs hc hin2 hret => ?_⟩
  obtain ⟨hx, hb, hml, hown, hts, hK, hty, -, hgo, hXc, hXt, hs⟩ := id hc
  have hO := kj_ok (rm := ({ frames := 1, cells := 14, slots := jSl ftB ksK 79 - jSl ftB ksK 65, locals := 20 } : Room)) (ft := ftB) (Qs := Qs) (i := 0) (rk := 5) (post := fun _ _ => True) hc (by rw [lnK]; decide) (Nat.le_of_ble_eq_true rfl) (jSl_m (by decide)) (Or.inl rfl)
  refine j_aload_n hO dX8_init_0 rfl 0 rfl ?_
  refine kj_obj hx hb hml hts hown ⟨om_1723, om_1612, om_1613⟩ dX8_init_1 (Nat.le_of_ble_eq_true rfl) (Nat.le_of_ble_eq_true rfl) (Nat.le_of_ble_eq_true rfl) ?_
  refine j_aload_n hO dX8_init_4 rfl 0 rfl ?_
  refine j_aload_n hO dX8_init_5 rfl 1 rfl ?_
  refine kj_pq hx hb hts hK had hs hown hin2 (n0 := 65) (i := 0) (v := 8) (by rw [lnK]; decide) (by unfold ri_; omega) (tkk kK_64 (by decide)) fB_11_0 rfl ff_X8_9 dX8_init_6 (fun M1 e1 => ?_)
  subst e1
  have hf := jFr_up (c := 64) (i := 0) (v := ((8 : Nat) : Int)) hf (by decide)
  refine j_aload_n hO dX8_init_9 rfl 0 rfl ?_
  refine j_sipush hO dX8_init_10 (by decide) ?_
  refine kj_ai hx hb hts hK had hs hty.2.1 (n0 := 65) (i := 0) (N := 401) (n := 65) (i1 := 1) rfl rfl kK_65 rfl (by decide) om_1617 dX8_init_13 (Nat.le_of_ble_eq_true rfl) (jSl_m (by decide)) hf ?_
  have hf := jFr_w (n' := 66) hf (by decide)
  have hO := kj_ok (rm := ({ frames := 1, cells := 14, slots := jSl ftB ksK 79 - jSl ftB ksK 65, locals := 20 } : Room)) (ft := ftB) (Qs := Qs) (i := 1) (rk := 5) (post := fun _ _ => True) hc (by rw [lnK]; decide) (Nat.le_of_ble_eq_true rfl) (jSl_m (by decide)) (Or.inl rfl)
  refine kj_pqa hx hb hts hK had hs hown hin2 (n0 := 65) (i := 1) (v := 65) (by rw [lnK]; decide) (by unfold ri_; omega) (tkk kK_64 (by decide)) fB_11_2 rfl ff_X8_17 dX8_init_15 (fun M1 e1 => ?_)
  subst e1
  have hf := jFr_up (c := 64) (i := 2) (v := ((65 : Nat) : Int)) hf (by decide)
  refine j_aload_n hO dX8_init_18 rfl 0 rfl ?_
  refine j_sipush hO dX8_init_19 (by decide) ?_
  refine kj_ai hx hb hts hK had hs hty.2.1 (n0 := 65) (i := 1) (N := 4108) (n := 66) (i1 := 2) rfl rfl kK_66 rfl (by decide) om_1617 dX8_init_22 (Nat.le_of_ble_eq_true rfl) (jSl_m (by decide)) hf ?_
  have hf := jFr_w (n' := 67) hf (by decide)
  have hO := kj_ok (rm := ({ frames := 1, cells := 14, slots := jSl ftB ksK 79 - jSl ftB ksK 65, locals := 20 } : Room)) (ft := ftB) (Qs := Qs) (i := 2) (rk := 5) (post := fun _ _ => True) hc (by rw [lnK]; decide) (Nat.le_of_ble_eq_true rfl) (jSl_m (by decide)) (Or.inl rfl)
  refine kj_pqa hx hb hts hK had hs hown hin2 (n0 := 65) (i := 2) (v := 66) (by rw [lnK]; decide) (by unfold ri_; omega) (tkk kK_64 (by decide)) fB_11_3 rfl ff_X8_21 dX8_init_24 (fun M1 e1 => ?_)
  subst e1
  have hf := jFr_up (c := 64) (i := 3) (v := ((66 : Nat) : Int)) hf (by decide)
  refine j_aload_n hO dX8_init_27 rfl 0 rfl ?_
  refine j_sipush hO dX8_init_28 (by decide) ?_
  refine kj_ai hx hb hts hK had hs hty.2.1 (n0 := 65) (i := 2) (N := 4108) (n := 67) (i1 := 3) rfl rfl kK_67 rfl (by decide) om_1617 dX8_init_31 (Nat.le_of_ble_eq_true rfl) (jSl_m (by decide)) hf ?_
  have hf := jFr_w (n' := 68) hf (by decide)
  have hO := kj_ok (rm := ({ frames := 1, cells := 14, slots := jSl ftB ksK 79 - jSl ftB ksK 65, locals := 20 } : Room)) (ft := ftB) (Qs := Qs) (i := 3) (rk := 5) (post := fun _ _ => True) hc (by rw [lnK]; decide) (Nat.le_of_ble_eq_true rfl) (jSl_m (by decide)) (Or.inl rfl)
  refine kj_pqa hx hb hts hK had hs hown hin2 (n0 := 65) (i := 3) (v := 67) (by rw [lnK]; decide) (by unfold ri_; omega) (tkk kK_64 (by decide)) fB_11_4 rfl ff_X8_24 dX8_init_33 (fun M1 e1 => ?_)
  subst e1
  have hf := jFr_up (c := 64) (i := 4) (v := ((67 : Nat) : Int)) hf (by decide)
  refine j_aload_n hO dX8_init_36 rfl 0 rfl ?_
  refine j_sipush hO dX8_init_37 (by decide) ?_
  refine kj_ai hx hb hts hK had hs hty.2.1 (n0 := 65) (i := 3) (N := 400) (n := 68) (i1 := 4) rfl rfl kK_68 rfl (by decide) om_1617 dX8_init_40 (Nat.le_of_ble_eq_true rfl) (jSl_m (by decide)) hf ?_
  have hf := jFr_w (n' := 69) hf (by decide)
  have hO := kj_ok (rm := ({ frames := 1, cells := 14, slots := jSl ftB ksK 79 - jSl ftB ksK 65, locals := 20 } : Room)) (ft := ftB) (Qs := Qs) (i := 4) (rk := 5) (post := fun _ _ => True) hc (by rw [lnK]; decide) (Nat.le_of_ble_eq_true rfl) (jSl_m (by decide)) (Or.inl rfl)
  refine kj_pqa hx hb hts hK had hs hown hin2 (n0 := 65) (i := 4) (v := 68) (by rw [lnK]; decide) (by unfold ri_; omega) (tkk kK_64 (by decide)) fB_11_5 rfl ff_X8_27 dX8_init_42 (fun M1 e1 => ?_)
  subst e1
  have hf := jFr_up (c := 64) (i := 5) (v := ((68 : Nat) : Int)) hf (by decide)
  refine j_aload_n hO dX8_init_45 rfl 0 rfl ?_
  refine j_sipush hO dX8_init_46 (by decide) ?_
  refine kj_ai hx hb hts hK had hs hty.2.1 (n0 := 65) (i := 4) (N := 400) (n := 69) (i1 := 5) rfl rfl kK_69 rfl (by decide) om_1617 dX8_init_49 (Nat.le_of_ble_eq_true rfl) (jSl_m (by decide)) hf ?_
  have hf := jFr_w (n' := 70) hf (by decide)
  have hO := kj_ok (rm := ({ frames := 1, cells := 14, slots := jSl ftB ksK 79 - jSl ftB ksK 65, locals := 20 } : Room)) (ft := ftB) (Qs := Qs) (i := 5) (rk := 5) (post := fun _ _ => True) hc (by rw [lnK]; decide) (Nat.le_of_ble_eq_true rfl) (jSl_m (by decide)) (Or.inl rfl)
  refine kj_pqa hx hb hts hK had hs hown hin2 (n0 := 65) (i := 5) (v := 69) (by rw [lnK]; decide) (by unfold ri_; omega) (tkk kK_64 (by decide)) fB_11_6 rfl ff_X8_30 dX8_init_51 (fun M1 e1 => ?_)
  subst e1
  have hf := jFr_up (c := 64) (i := 6) (v := ((69 : Nat) : Int)) hf (by decide)
  refine j_aload_n hO dX8_init_54 rfl 0 rfl ?_
  refine j_sipush hO dX8_init_55 (by decide) ?_
  refine kj_ai hx hb hts hK had hs hty.2.1 (n0 := 65) (i := 5) (N := 400) (n := 70) (i1 := 6) rfl rfl kK_70 rfl (by decide) om_1617 dX8_init_58 (Nat.le_of_ble_eq_true rfl) (jSl_m (by decide)) hf ?_
  have hf := jFr_w (n' := 71) hf (by decide)
  have hO := kj_ok (rm := ({ frames := 1, cells := 14, slots := jSl ftB ksK 79 - jSl ftB ksK 65, locals := 20 } : Room)) (ft := ftB) (Qs := Qs) (i := 6) (rk := 5) (post := fun _ _ => True) hc (by rw [lnK]; decide) (Nat.le_of_ble_eq_true rfl) (jSl_m (by decide)) (Or.inl rfl)
  refine kj_pqa hx hb hts hK had hs hown hin2 (n0 := 65) (i := 6) (v := 70) (by rw [lnK]; decide) (by unfold ri_; omega) (tkk kK_64 (by decide)) fB_11_7 rfl ff_X8_33 dX8_init_60 (fun M1 e1 => ?_)
  subst e1
  have hf := jFr_up (c := 64) (i := 7) (v := ((70 : Nat) : Int)) hf (by decide)
  refine j_aload_n hO dX8_init_63 rfl 0 rfl ?_
  refine j_sipush hO dX8_init_64 (by decide) ?_
  refine kj_ai hx hb hts hK had hs hty.2.1 (n0 := 65) (i := 6) (N := 400) (n := 71) (i1 := 7) rfl rfl kK_71 rfl (by decide) om_1617 dX8_init_67 (Nat.le_of_ble_eq_true rfl) (jSl_m (by decide)) hf ?_
  have hf := jFr_w (n' := 72) hf (by decide)
  have hO := kj_ok (rm := ({ frames := 1, cells := 14, slots := jSl ftB ksK 79 - jSl ftB ksK 65, locals := 20 } : Room)) (ft := ftB) (Qs := Qs) (i := 7) (rk := 5) (post := fun _ _ => True) hc (by rw [lnK]; decide) (Nat.le_of_ble_eq_true rfl) (jSl_m (by decide)) (Or.inl rfl)
  refine kj_pqa hx hb hts hK had hs hown hin2 (n0 := 65) (i := 7) (v := 71) (by rw [lnK]; decide) (by unfold ri_; omega) (tkk kK_64 (by decide)) fB_11_8 rfl ff_X8_36 dX8_init_69 (fun M1 e1 => ?_)
  subst e1
  have hf := jFr_up (c := 64) (i := 8) (v := ((71 : Nat) : Int)) hf (by decide)
  refine j_aload_n hO dX8_init_72 rfl 0 rfl ?_
  refine j_sipush hO dX8_init_73 (by decide) ?_
  refine kj_ai hx hb hts hK had hs hty.2.1 (n0 := 65) (i := 7) (N := 400) (n := 72) (i1 := 8) rfl rfl kK_72 rfl (by decide) om_1617 dX8_init_76 (Nat.le_of_ble_eq_true rfl) (jSl_m (by decide)) hf ?_
  have hf := jFr_w (n' := 73) hf (by decide)
  have hO := kj_ok (rm := ({ frames := 1, cells := 14, slots := jSl ftB ksK 79 - jSl ftB ksK 65, locals := 20 } : Room)) (ft := ftB) (Qs := Qs) (i := 8) (rk := 5) (post := fun _ _ => True) hc (by rw [lnK]; decide) (Nat.le_of_ble_eq_true rfl) (jSl_m (by decide)) (Or.inl rfl)
  refine kj_pqa hx hb hts hK had hs hown hin2 (n0 := 65) (i := 8) (v := 72) (by rw [lnK]; decide) (by unfold ri_; omega) (tkk kK_64 (by decide)) fB_11_10 rfl ff_X8_39 dX8_init_78 (fun M1 e1 => ?_)
  subst e1
  have hf := jFr_up (c := 64) (i := 10) (v := ((72 : Nat) : Int)) hf (by decide)
  refine j_aload_n hO dX8_init_81 rfl 0 rfl ?_
  refine j_sipush hO dX8_init_82 (by decide) ?_
  refine kj_ai hx hb hts hK had hs hty.2.1 (n0 := 65) (i := 8) (N := 400) (n := 73) (i1 := 9) rfl rfl kK_73 rfl (by decide) om_1617 dX8_init_85 (Nat.le_of_ble_eq_true rfl) (jSl_m (by decide)) hf ?_
  have hf := jFr_w (n' := 74) hf (by decide)
  have hO := kj_ok (rm := ({ frames := 1, cells := 14, slots := jSl ftB ksK 79 - jSl ftB ksK 65, locals := 20 } : Room)) (ft := ftB) (Qs := Qs) (i := 9) (rk := 5) (post := fun _ _ => True) hc (by rw [lnK]; decide) (Nat.le_of_ble_eq_true rfl) (jSl_m (by decide)) (Or.inl rfl)
  refine kj_pqa hx hb hts hK had hs hown hin2 (n0 := 65) (i := 9) (v := 73) (by rw [lnK]; decide) (by unfold ri_; omega) (tkk kK_64 (by decide)) fB_11_12 rfl ff_X8_42 dX8_init_87 (fun M1 e1 => ?_)
  subst e1
  have hf := jFr_up (c := 64) (i := 12) (v := ((73 : Nat) : Int)) hf (by decide)
  refine j_aload_n hO dX8_init_90 rfl 0 rfl ?_
  refine j_sipush hO dX8_init_91 (by decide) ?_
  refine kj_ai hx hb hts hK had hs hty.2.1 (n0 := 65) (i := 9) (N := 400) (n := 74) (i1 := 10) rfl rfl kK_74 rfl (by decide) om_1617 dX8_init_94 (Nat.le_of_ble_eq_true rfl) (jSl_m (by decide)) hf ?_
  have hf := jFr_w (n' := 75) hf (by decide)
  have hO := kj_ok (rm := ({ frames := 1, cells := 14, slots := jSl ftB ksK 79 - jSl ftB ksK 65, locals := 20 } : Room)) (ft := ftB) (Qs := Qs) (i := 10) (rk := 5) (post := fun _ _ => True) hc (by rw [lnK]; decide) (Nat.le_of_ble_eq_true rfl) (jSl_m (by decide)) (Or.inl rfl)
  refine kj_pqa hx hb hts hK had hs hown hin2 (n0 := 65) (i := 10) (v := 74) (by rw [lnK]; decide) (by unfold ri_; omega) (tkk kK_64 (by decide)) fB_11_13 rfl ff_X8_45 dX8_init_96 (fun M1 e1 => ?_)
  subst e1
  have hf := jFr_up (c := 64) (i := 13) (v := ((74 : Nat) : Int)) hf (by decide)
  refine j_aload_n hO dX8_init_99 rfl 0 rfl ?_
  refine j_sipush hO dX8_init_100 (by decide) ?_
  refine kj_ai hx hb hts hK had hs hty.2.1 (n0 := 65) (i := 10) (N := 400) (n := 75) (i1 := 11) rfl rfl kK_75 rfl (by decide) om_1617 dX8_init_103 (Nat.le_of_ble_eq_true rfl) (jSl_m (by decide)) hf ?_
  have hf := jFr_w (n' := 76) hf (by decide)
  have hO := kj_ok (rm := ({ frames := 1, cells := 14, slots := jSl ftB ksK 79 - jSl ftB ksK 65, locals := 20 } : Room)) (ft := ftB) (Qs := Qs) (i := 11) (rk := 5) (post := fun _ _ => True) hc (by rw [lnK]; decide) (Nat.le_of_ble_eq_true rfl) (jSl_m (by decide)) (Or.inl rfl)
  refine kj_pqa hx hb hts hK had hs hown hin2 (n0 := 65) (i := 11) (v := 75) (by rw [lnK]; decide) (by unfold ri_; omega) (tkk kK_64 (by decide)) fB_11_14 rfl ff_X8_48 dX8_init_105 (fun M1 e1 => ?_)
  subst e1
  have hf := jFr_up (c := 64) (i := 14) (v := ((75 : Nat) : Int)) hf (by decide)
  refine j_aload_n hO dX8_init_108 rfl 0 rfl ?_
  refine j_sipush hO dX8_init_109 (by decide) ?_
  refine kj_ai hx hb hts hK had hs hty.2.1 (n0 := 65) (i := 11) (N := 400) (n := 76) (i1 := 12) rfl rfl kK_76 rfl (by decide) om_1617 dX8_init_112 (Nat.le_of_ble_eq_true rfl) (jSl_m (by decide)) hf ?_
  have hf := jFr_w (n' := 77) hf (by decide)
  have hO := kj_ok (rm := ({ frames := 1, cells := 14, slots := jSl ftB ksK 79 - jSl ftB ksK 65, locals := 20 } : Room)) (ft := ftB) (Qs := Qs) (i := 12) (rk := 5) (post := fun _ _ => True) hc (by rw [lnK]; decide) (Nat.le_of_ble_eq_true rfl) (jSl_m (by decide)) (Or.inl rfl)
  refine kj_pqa hx hb hts hK had hs hown hin2 (n0 := 65) (i := 12) (v := 76) (by rw [lnK]; decide) (by unfold ri_; omega) (tkk kK_64 (by decide)) fB_11_15 rfl ff_X8_51 dX8_init_114 (fun M1 e1 => ?_)
  subst e1
  have hf := jFr_up (c := 64) (i := 15) (v := ((76 : Nat) : Int)) hf (by decide)
  refine j_aload_n hO dX8_init_117 rfl 0 rfl ?_
  refine j_sipush hO dX8_init_118 (by decide) ?_
  refine kj_ai hx hb hts hK had hs hty.2.1 (n0 := 65) (i := 12) (N := 400) (n := 77) (i1 := 13) rfl rfl kK_77 rfl (by decide) om_1617 dX8_init_121 (Nat.le_of_ble_eq_true rfl) (jSl_m (by decide)) hf ?_
  have hf := jFr_w (n' := 78) hf (by decide)
  have hO := kj_ok (rm := ({ frames := 1, cells := 14, slots := jSl ftB ksK 79 - jSl ftB ksK 65, locals := 20 } : Room)) (ft := ftB) (Qs := Qs) (i := 13) (rk := 5) (post := fun _ _ => True) hc (by rw [lnK]; decide) (Nat.le_of_ble_eq_true rfl) (jSl_m (by decide)) (Or.inl rfl)
  refine kj_pqa hx hb hts hK had hs hown hin2 (n0 := 65) (i := 13) (v := 77) (by rw [lnK]; decide) (by unfold ri_; omega) (tkk kK_64 (by decide)) fB_11_16 rfl ff_X8_54 dX8_init_123 (fun M1 e1 => ?_)
  subst e1
  have hf := jFr_up (c := 64) (i := 16) (v := ((77 : Nat) : Int)) hf (by decide)
  refine j_aload_n hO dX8_init_126 rfl 0 rfl ?_
  refine j_sipush hO dX8_init_127 (by decide) ?_
  refine kj_ai hx hb hts hK had hs hty.2.1 (n0 := 65) (i := 13) (N := 512) (n := 78) (i1 := 14) rfl rfl kK_78 rfl (by decide) om_1617 dX8_init_130 (Nat.le_of_ble_eq_true rfl) (jSl_m (by decide)) hf ?_
  have hf := jFr_w (n' := 79) hf (by decide)
  have hO := kj_ok (rm := ({ frames := 1, cells := 14, slots := jSl ftB ksK 79 - jSl ftB ksK 65, locals := 20 } : Room)) (ft := ftB) (Qs := Qs) (i := 14) (rk := 5) (post := fun _ _ => True) hc (by rw [lnK]; decide) (Nat.le_of_ble_eq_true rfl) (jSl_m (by decide)) (Or.inl rfl)
  refine kj_pqa hx hb hts hK had hs hown hin2 (n0 := 65) (i := 14) (v := 78) (by rw [lnK]; decide) (by unfold ri_; omega) (tkk kK_64 (by decide)) fB_11_17 rfl ff_X8_57 dX8_init_132 (fun M1 e1 => ?_)
  subst e1
  have hf := jFr_up (c := 64) (i := 17) (v := ((78 : Nat) : Int)) hf (by decide)
  exact hret _ _ _ dX8_init_135 hF
set_option maxHeartbeats 4000000 in
set_option maxRecDepth 100000 in
theorem c_X5_init_46 {l : Launch} {D : va_G} {cy : Nat → ClassId} {ad : Nat → Nat} {xs : Nat → Int} {L b0 : Nat} (had : ∀ k, k < ksK.length → ad k = b0 + k) : jKN l D vwCl (tyB cy) cy ad ftB ksK (XtB ad xs L) yX5_init (.code yX5_init cX5_init 2 none :: Om) ({ frames := 2, cells := 32, slots := jSl ftB ksK 79 - jSl ftB ksK 47, locals := 41 } : Room) b0 47 32 (W_X5_init_46 ad) := by
  refine jKN_of (y := yX5_init) (cc := cX5_init) (nL := 2) (rm := ({ frames := 2, cells := 32, slots := jSl ftB ksK 79 - jSl ftB ksK 47, locals := 41 } : Room)) (own := RX5) (tyB_ok cy) had (XtB_ok ad xs L) Om_good (by decide) rfl rfl ?_
  intro post av M hF
  obtain ⟨rfl, hf, hF⟩ := hF
  refine ⟨Nat.le_of_ble_eq_true rfl, fun p e s m below meth c Qs hc hin2 hret => ?_⟩
  obtain ⟨hx, hb, hml, hown, hts, hK, hty, -, hgo, hXc, hXt, hs⟩ := id hc
  have hO := kj_ok (rm := ({ frames := 2, cells := 32, slots := jSl ftB ksK 79 - jSl ftB ksK 47, locals := 41 } : Room)) (ft := ftB) (Qs := Qs) (i := 0) (rk := 5) (post := fun _ _ => True) hc (by rw [lnK]; decide) (Nat.le_of_ble_eq_true rfl) (jSl_m (by decide)) (Or.inl rfl)
  refine j_aload_n hO dX5_init_0 rfl 0 rfl ?_
  refine kj_obj hx hb hml hts hown ⟨om_1702, om_1612, om_1613⟩ dX5_init_1 (Nat.le_of_ble_eq_true rfl) (Nat.le_of_ble_eq_true rfl) (Nat.le_of_ble_eq_true rfl) ?_
  refine j_aload_n hO dX5_init_4 rfl 0 rfl ?_
  refine j_sipush hO dX5_init_5 (by decide) ?_
  refine kj_ai hx hb hts hK had hs hty.2.1 (n0 := 47) (i := 0) (N := 400) (n := 47) (i1 := 1) rfl rfl kK_47 rfl (by decide) om_1617 dX5_init_8 (Nat.le_of_ble_eq_true rfl) (jSl_m (by decide)) hf ?_
  have hf := jFr_w (n' := 48) hf (by decide)
  have hO := kj_ok (rm := ({ frames := 2, cells := 32, slots := jSl ftB ksK 79 - jSl ftB ksK 47, locals := 41 } : Room)) (ft := ftB) (Qs := Qs) (i := 1) (rk := 5) (post := fun _ _ => True) hc (by rw [lnK]; decide) (Nat.le_of_ble_eq_true rfl) (jSl_m (by decide)) (Or.inl rfl)
  refine kj_pqa hx hb hts hK had hs hown hin2 (n0 := 47) (i := 1) (v := 47) (by rw [lnK]; decide) (by unfold ri_; omega) (tkk kK_46 (by decide)) fB_8_1 rfl ff_X5_11 dX5_init_10 (fun M1 e1 => ?_)
  subst e1
  have hf := jFr_up (c := 46) (i := 1) (v := ((47 : Nat) : Int)) hf (by decide)
  refine j_aload_n hO dX5_init_13 rfl 0 rfl ?_
  refine j_sipush hO dX5_init_14 (by decide) ?_
  refine kj_ai hx hb hts hK had hs hty.2.1 (n0 := 47) (i := 1) (N := 400) (n := 48) (i1 := 2) rfl rfl kK_48 rfl (by decide) om_1617 dX5_init_17 (Nat.le_of_ble_eq_true rfl) (jSl_m (by decide)) hf ?_
  have hf := jFr_w (n' := 49) hf (by decide)
  have hO := kj_ok (rm := ({ frames := 2, cells := 32, slots := jSl ftB ksK 79 - jSl ftB ksK 47, locals := 41 } : Room)) (ft := ftB) (Qs := Qs) (i := 2) (rk := 5) (post := fun _ _ => True) hc (by rw [lnK]; decide) (Nat.le_of_ble_eq_true rfl) (jSl_m (by decide)) (Or.inl rfl)
  refine kj_pqa hx hb hts hK had hs hown hin2 (n0 := 47) (i := 2) (v := 48) (by rw [lnK]; decide) (by unfold ri_; omega) (tkk kK_46 (by decide)) fB_8_2 rfl ff_X5_15 dX5_init_19 (fun M1 e1 => ?_)
  subst e1
  have hf := jFr_up (c := 46) (i := 2) (v := ((48 : Nat) : Int)) hf (by decide)
  refine j_aload_n hO dX5_init_22 rfl 0 rfl ?_
  refine j_sipush hO dX5_init_23 (by decide) ?_
  refine kj_ai hx hb hts hK had hs hty.2.1 (n0 := 47) (i := 2) (N := 400) (n := 49) (i1 := 3) rfl rfl kK_49 rfl (by decide) om_1617 dX5_init_26 (Nat.le_of_ble_eq_true rfl) (jSl_m (by decide)) hf ?_
  have hf := jFr_w (n' := 50) hf (by decide)
  have hO := kj_ok (rm := ({ frames := 2, cells := 32, slots := jSl ftB ksK 79 - jSl ftB ksK 47, locals := 41 } : Room)) (ft := ftB) (Qs := Qs) (i := 3) (rk := 5) (post := fun _ _ => True) hc (by rw [lnK]; decide) (Nat.le_of_ble_eq_true rfl) (jSl_m (by decide)) (Or.inl rfl)
  refine kj_pqa hx hb hts hK had hs hown hin2 (n0 := 47) (i := 3) (v := 49) (by rw [lnK]; decide) (by unfold ri_; omega) (tkk kK_46 (by decide)) fB_8_3 rfl ff_X5_18 dX5_init_28 (fun M1 e1 => ?_)
  subst e1
  have hf := jFr_up (c := 46) (i := 3) (v := ((49 : Nat) : Int)) hf (by decide)
  refine j_aload_n hO dX5_init_31 rfl 0 rfl ?_
  refine j_sipush hO dX5_init_32 (by decide) ?_
  refine kj_ai hx hb hts hK had hs hty.2.1 (n0 := 47) (i := 3) (N := 401) (n := 50) (i1 := 4) rfl rfl kK_50 rfl (by decide) om_1617 dX5_init_35 (Nat.le_of_ble_eq_true rfl) (jSl_m (by decide)) hf ?_
  have hf := jFr_w (n' := 51) hf (by decide)
  have hO := kj_ok (rm := ({ frames := 2, cells := 32, slots := jSl ftB ksK 79 - jSl ftB ksK 47, locals := 41 } : Room)) (ft := ftB) (Qs := Qs) (i := 4) (rk := 5) (post := fun _ _ => True) hc (by rw [lnK]; decide) (Nat.le_of_ble_eq_true rfl) (jSl_m (by decide)) (Or.inl rfl)
  refine kj_pqa hx hb hts hK had hs hown hin2 (n0 := 47) (i := 4) (v := 50) (by rw [lnK]; decide) (by unfold ri_; omega) (tkk kK_46 (by decide)) fB_8_4 rfl ff_X5_21 dX5_init_37 (fun M1 e1 => ?_)
  subst e1
  have hf := jFr_up (c := 46) (i := 4) (v := ((50 : Nat) : Int)) hf (by decide)
  refine j_aload_n hO dX5_init_40 rfl 0 rfl ?_
  refine j_sipush hO dX5_init_41 (by decide) ?_
  refine kj_ai hx hb hts hK had hs hty.2.1 (n0 := 47) (i := 4) (N := 400) (n := 51) (i1 := 5) rfl rfl kK_51 rfl (by decide) om_1617 dX5_init_44 (Nat.le_of_ble_eq_true rfl) (jSl_m (by decide)) hf ?_
  have hf := jFr_w (n' := 52) hf (by decide)
  have hO := kj_ok (rm := ({ frames := 2, cells := 32, slots := jSl ftB ksK 79 - jSl ftB ksK 47, locals := 41 } : Room)) (ft := ftB) (Qs := Qs) (i := 5) (rk := 5) (post := fun _ _ => True) hc (by rw [lnK]; decide) (Nat.le_of_ble_eq_true rfl) (jSl_m (by decide)) (Or.inl rfl)
  refine kj_pqa hx hb hts hK had hs hown hin2 (n0 := 47) (i := 5) (v := 51) (by rw [lnK]; decide) (by unfold ri_; omega) (tkk kK_46 (by decide)) fB_8_5 rfl ff_X5_24 dX5_init_46 (fun M1 e1 => ?_)
  subst e1
  have hf := jFr_up (c := 46) (i := 5) (v := ((51 : Nat) : Int)) hf (by decide)
  refine j_aload_n hO dX5_init_49 rfl 0 rfl ?_
  refine j_sipush hO dX5_init_50 (by decide) ?_
  refine kj_ai hx hb hts hK had hs hty.2.1 (n0 := 47) (i := 5) (N := 400) (n := 52) (i1 := 6) rfl rfl kK_52 rfl (by decide) om_1617 dX5_init_53 (Nat.le_of_ble_eq_true rfl) (jSl_m (by decide)) hf ?_
  have hf := jFr_w (n' := 53) hf (by decide)
  have hO := kj_ok (rm := ({ frames := 2, cells := 32, slots := jSl ftB ksK 79 - jSl ftB ksK 47, locals := 41 } : Room)) (ft := ftB) (Qs := Qs) (i := 6) (rk := 5) (post := fun _ _ => True) hc (by rw [lnK]; decide) (Nat.le_of_ble_eq_true rfl) (jSl_m (by decide)) (Or.inl rfl)
  refine kj_pqa hx hb hts hK had hs hown hin2 (n0 := 47) (i := 6) (v := 52) (by rw [lnK]; decide) (by unfold ri_; omega) (tkk kK_46 (by decide)) fB_8_6 rfl ff_X5_27 dX5_init_55 (fun M1 e1 => ?_)
  subst e1
  have hf := jFr_up (c := 46) (i := 6) (v := ((52 : Nat) : Int)) hf (by decide)
  refine j_aload_n hO dX5_init_58 rfl 0 rfl ?_
  refine j_sipush hO dX5_init_59 (by decide) ?_
  refine kj_ai hx hb hts hK had hs hty.2.1 (n0 := 47) (i := 6) (N := 400) (n := 53) (i1 := 7) rfl rfl kK_53 rfl (by decide) om_1617 dX5_init_62 (Nat.le_of_ble_eq_true rfl) (jSl_m (by decide)) hf ?_
  have hf := jFr_w (n' := 54) hf (by decide)
  have hO := kj_ok (rm := ({ frames := 2, cells := 32, slots := jSl ftB ksK 79 - jSl ftB ksK 47, locals := 41 } : Room)) (ft := ftB) (Qs := Qs) (i := 7) (rk := 5) (post := fun _ _ => True) hc (by rw [lnK]; decide) (Nat.le_of_ble_eq_true rfl) (jSl_m (by decide)) (Or.inl rfl)
  refine kj_pqa hx hb hts hK had hs hown hin2 (n0 := 47) (i := 7) (v := 53) (by rw [lnK]; decide) (by unfold ri_; omega) (tkk kK_46 (by decide)) fB_8_7 rfl ff_X5_30 dX5_init_64 (fun M1 e1 => ?_)
  subst e1
  have hf := jFr_up (c := 46) (i := 7) (v := ((53 : Nat) : Int)) hf (by decide)
  refine j_aload_n hO dX5_init_67 rfl 0 rfl ?_
  refine j_sipush hO dX5_init_68 (by decide) ?_
  refine kj_ai hx hb hts hK had hs hty.2.1 (n0 := 47) (i := 7) (N := 400) (n := 54) (i1 := 8) rfl rfl kK_54 rfl (by decide) om_1617 dX5_init_71 (Nat.le_of_ble_eq_true rfl) (jSl_m (by decide)) hf ?_
  have hf := jFr_w (n' := 55) hf (by decide)
  have hO := kj_ok (rm := ({ frames := 2, cells := 32, slots := jSl ftB ksK 79 - jSl ftB ksK 47, locals := 41 } : Room)) (ft := ftB) (Qs := Qs) (i := 8) (rk := 5) (post := fun _ _ => True) hc (by rw [lnK]; decide) (Nat.le_of_ble_eq_true rfl) (jSl_m (by decide)) (Or.inl rfl)
  refine kj_pqa hx hb hts hK had hs hown hin2 (n0 := 47) (i := 8) (v := 54) (by rw [lnK]; decide) (by unfold ri_; omega) (tkk kK_46 (by decide)) fB_8_8 rfl ff_X5_35 dX5_init_73 (fun M1 e1 => ?_)
  subst e1
  have hf := jFr_up (c := 46) (i := 8) (v := ((54 : Nat) : Int)) hf (by decide)
  refine j_aload_n hO dX5_init_76 rfl 0 rfl ?_
  refine j_gq (v := 54) hO (tkk kK_46 (by decide)) fB_8_8 rfl fl_X5_35 dX5_init_77 (by rfl) ?_
  refine j_iconst hO dX5_init_80 ?_
  refine j_callSv hO (c_J7_fill_53178_B (l := l) (D := D) (cy := cy) (ad := ad) (xs := xs) (L := L) (ksB := ksK.take (47 + 8)) (by rw [tkl (by rw [lnK]; decide)]; exact jIn_b (fun k hk => had k (by rw [lnK]; omega)))) rfl om_497 ⟨rfl, rfl, Nat.le_of_ble_eq_true rfl, Nat.le_of_ble_eq_true rfl⟩ [.ref (ad 54), .int (Ii (-1))] mv_X5_38 hd_J7_fill_53178 rfl (Nat.le_of_ble_eq_true rfl) dX5_init_81 (P := fun _ M1 => M1 = filled _ 54 0 (400 : Nat) (-1)) ⟨54, 400, (-1), rfl, (tkk kK_54 (by decide)), by decide, rk_m1, p_fillI (by decide) rfl⟩ (fun M1 e1 => ?_)
  subst e1
  have hf := jFr_fl (c := 54) (f := 0) (t := (400 : Nat)) (v := (-1)) hf (by decide)
  refine j_aload_n hO dX5_init_84 rfl 0 rfl ?_
  refine j_sipush hO dX5_init_85 (by decide) ?_
  refine kj_al hx hb hts hK had hs hty.2.2.1 (n0 := 47) (i := 8) (N := 4000) (n := 55) (i1 := 9) rfl rfl kK_55 rfl (by decide) om_1622 dX5_init_88 (Nat.le_of_ble_eq_true rfl) (jSl_m (by decide)) hf ?_
  have hf := jFr_w (n' := 56) hf (by decide)
  have hO := kj_ok (rm := ({ frames := 2, cells := 32, slots := jSl ftB ksK 79 - jSl ftB ksK 47, locals := 41 } : Room)) (ft := ftB) (Qs := Qs) (i := 9) (rk := 5) (post := fun _ _ => True) hc (by rw [lnK]; decide) (Nat.le_of_ble_eq_true rfl) (jSl_m (by decide)) (Or.inl rfl)
  refine kj_pqa hx hb hts hK had hs hown hin2 (n0 := 47) (i := 9) (v := 55) (by rw [lnK]; decide) (by unfold ri_; omega) (tkk kK_46 (by decide)) fB_8_9 rfl ff_X5_44 dX5_init_90 (fun M1 e1 => ?_)
  subst e1
  have hf := jFr_up (c := 46) (i := 9) (v := ((55 : Nat) : Int)) hf (by decide)
  refine j_aload_n hO dX5_init_93 rfl 0 rfl ?_
  refine j_sipush hO dX5_init_94 (by decide) ?_
  refine kj_az hx hb hts hK had hs hty.2.2.2 (n0 := 47) (i := 9) (N := 4000) (n := 56) (i1 := 10) rfl rfl kK_56 rfl (by decide) om_1646 dX5_init_97 (Nat.le_of_ble_eq_true rfl) (jSl_m (by decide)) hf ?_
  have hf := jFr_w (n' := 57) hf (by decide)
  have hO := kj_ok (rm := ({ frames := 2, cells := 32, slots := jSl ftB ksK 79 - jSl ftB ksK 47, locals := 41 } : Room)) (ft := ftB) (Qs := Qs) (i := 10) (rk := 5) (post := fun _ _ => True) hc (by rw [lnK]; decide) (Nat.le_of_ble_eq_true rfl) (jSl_m (by decide)) (Or.inl rfl)
  refine kj_pqa hx hb hts hK had hs hown hin2 (n0 := 47) (i := 10) (v := 56) (by rw [lnK]; decide) (by unfold ri_; omega) (tkk kK_46 (by decide)) fB_8_10 rfl ff_X5_48 dX5_init_99 (fun M1 e1 => ?_)
  subst e1
  have hf := jFr_up (c := 46) (i := 10) (v := ((56 : Nat) : Int)) hf (by decide)
  refine j_aload_n hO dX5_init_102 rfl 0 rfl ?_
  refine j_bipush hO dX5_init_103 (by decide) ?_
  refine kj_ai hx hb hts hK had hs hty.2.1 (n0 := 47) (i := 10) (N := 108) (n := 57) (i1 := 11) rfl rfl kK_57 rfl (by decide) om_1617 dX5_init_105 (Nat.le_of_ble_eq_true rfl) (jSl_m (by decide)) hf ?_
  have hf := jFr_w (n' := 58) hf (by decide)
  have hO := kj_ok (rm := ({ frames := 2, cells := 32, slots := jSl ftB ksK 79 - jSl ftB ksK 47, locals := 41 } : Room)) (ft := ftB) (Qs := Qs) (i := 11) (rk := 5) (post := fun _ _ => True) hc (by rw [lnK]; decide) (Nat.le_of_ble_eq_true rfl) (jSl_m (by decide)) (Or.inl rfl)
  refine kj_pqa hx hb hts hK had hs hown hin2 (n0 := 47) (i := 11) (v := 57) (by rw [lnK]; decide) (by unfold ri_; omega) (tkk kK_46 (by decide)) fB_8_12 rfl ff_X5_52 dX5_init_107 (fun M1 e1 => ?_)
  subst e1
  have hf := jFr_up (c := 46) (i := 12) (v := ((57 : Nat) : Int)) hf (by decide)
  refine j_aload_n hO dX5_init_110 rfl 0 rfl ?_
  refine j_bipush hO dX5_init_111 (by decide) ?_
  refine kj_ai hx hb hts hK had hs hty.2.1 (n0 := 47) (i := 11) (N := 108) (n := 58) (i1 := 12) rfl rfl kK_58 rfl (by decide) om_1617 dX5_init_113 (Nat.le_of_ble_eq_true rfl) (jSl_m (by decide)) hf ?_
  have hf := jFr_w (n' := 59) hf (by decide)
  have hO := kj_ok (rm := ({ frames := 2, cells := 32, slots := jSl ftB ksK 79 - jSl ftB ksK 47, locals := 41 } : Room)) (ft := ftB) (Qs := Qs) (i := 12) (rk := 5) (post := fun _ _ => True) hc (by rw [lnK]; decide) (Nat.le_of_ble_eq_true rfl) (jSl_m (by decide)) (Or.inl rfl)
  refine kj_pqa hx hb hts hK had hs hown hin2 (n0 := 47) (i := 12) (v := 58) (by rw [lnK]; decide) (by unfold ri_; omega) (tkk kK_46 (by decide)) fB_8_13 rfl ff_X5_55 dX5_init_115 (fun M1 e1 => ?_)
  subst e1
  have hf := jFr_up (c := 46) (i := 13) (v := ((58 : Nat) : Int)) hf (by decide)
  refine j_aload_n hO dX5_init_118 rfl 0 rfl ?_
  refine j_sipush hO dX5_init_119 (by decide) ?_
  refine kj_az hx hb hts hK had hs hty.2.2.2 (n0 := 47) (i := 12) (N := 400) (n := 59) (i1 := 13) rfl rfl kK_59 rfl (by decide) om_1646 dX5_init_122 (Nat.le_of_ble_eq_true rfl) (jSl_m (by decide)) hf ?_
  have hf := jFr_w (n' := 60) hf (by decide)
  have hO := kj_ok (rm := ({ frames := 2, cells := 32, slots := jSl ftB ksK 79 - jSl ftB ksK 47, locals := 41 } : Room)) (ft := ftB) (Qs := Qs) (i := 13) (rk := 5) (post := fun _ _ => True) hc (by rw [lnK]; decide) (Nat.le_of_ble_eq_true rfl) (jSl_m (by decide)) (Or.inl rfl)
  refine kj_pqa hx hb hts hK had hs hown hin2 (n0 := 47) (i := 13) (v := 59) (by rw [lnK]; decide) (by unfold ri_; omega) (tkk kK_46 (by decide)) fB_8_14 rfl ff_X5_58 dX5_init_124 (fun M1 e1 => ?_)
  subst e1
  have hf := jFr_up (c := 46) (i := 14) (v := ((59 : Nat) : Int)) hf (by decide)
  refine j_aload_n hO dX5_init_127 rfl 0 rfl ?_
  refine j_sipush hO dX5_init_128 (by decide) ?_
  refine kj_ai hx hb hts hK had hs hty.2.1 (n0 := 47) (i := 13) (N := 400) (n := 60) (i1 := 14) rfl rfl kK_60 rfl (by decide) om_1617 dX5_init_131 (Nat.le_of_ble_eq_true rfl) (jSl_m (by decide)) hf ?_
  have hf := jFr_w (n' := 61) hf (by decide)
  have hO := kj_ok (rm := ({ frames := 2, cells := 32, slots := jSl ftB ksK 79 - jSl ftB ksK 47, locals := 41 } : Room)) (ft := ftB) (Qs := Qs) (i := 14) (rk := 5) (post := fun _ _ => True) hc (by rw [lnK]; decide) (Nat.le_of_ble_eq_true rfl) (jSl_m (by decide)) (Or.inl rfl)
  refine kj_pqa hx hb hts hK had hs hown hin2 (n0 := 47) (i := 14) (v := 60) (by rw [lnK]; decide) (by unfold ri_; omega) (tkk kK_46 (by decide)) fB_8_15 rfl ff_X5_61 dX5_init_133 (fun M1 e1 => ?_)
  subst e1
  have hf := jFr_up (c := 46) (i := 15) (v := ((60 : Nat) : Int)) hf (by decide)
  refine j_aload_n hO dX5_init_136 rfl 0 rfl ?_
  refine j_sipush hO dX5_init_137 (by decide) ?_
  refine kj_ai hx hb hts hK had hs hty.2.1 (n0 := 47) (i := 14) (N := 400) (n := 61) (i1 := 15) rfl rfl kK_61 rfl (by decide) om_1617 dX5_init_140 (Nat.le_of_ble_eq_true rfl) (jSl_m (by decide)) hf ?_
  have hf := jFr_w (n' := 62) hf (by decide)
  have hO := kj_ok (rm := ({ frames := 2, cells := 32, slots := jSl ftB ksK 79 - jSl ftB ksK 47, locals := 41 } : Room)) (ft := ftB) (Qs := Qs) (i := 15) (rk := 5) (post := fun _ _ => True) hc (by rw [lnK]; decide) (Nat.le_of_ble_eq_true rfl) (jSl_m (by decide)) (Or.inl rfl)
  refine kj_pqa hx hb hts hK had hs hown hin2 (n0 := 47) (i := 15) (v := 61) (by rw [lnK]; decide) (by unfold ri_; omega) (tkk kK_46 (by decide)) fB_8_17 rfl ff_X5_64 dX5_init_142 (fun M1 e1 => ?_)
  subst e1
  have hf := jFr_up (c := 46) (i := 17) (v := ((61 : Nat) : Int)) hf (by decide)
  refine j_aload_n hO dX5_init_145 rfl 0 rfl ?_
  refine j_sipush hO dX5_init_146 (by decide) ?_
  refine kj_ai hx hb hts hK had hs hty.2.1 (n0 := 47) (i := 15) (N := 400) (n := 62) (i1 := 16) rfl rfl kK_62 rfl (by decide) om_1617 dX5_init_149 (Nat.le_of_ble_eq_true rfl) (jSl_m (by decide)) hf ?_
  have hf := jFr_w (n' := 63) hf (by decide)
  have hO := kj_ok (rm := ({ frames := 2, cells := 32, slots := jSl ftB ksK 79 - jSl ftB ksK 47, locals := 41 } : Room)) (ft := ftB) (Qs := Qs) (i := 16) (rk := 5) (post := fun _ _ => True) hc (by rw [lnK]; decide) (Nat.le_of_ble_eq_true rfl) (jSl_m (by decide)) (Or.inl rfl)
  refine kj_pqa hx hb hts hK had hs hown hin2 (n0 := 47) (i := 16) (v := 62) (by rw [lnK]; decide) (by unfold ri_; omega) (tkk kK_46 (by decide)) fB_8_18 rfl ff_X5_67 dX5_init_151 (fun M1 e1 => ?_)
  subst e1
  have hf := jFr_up (c := 46) (i := 18) (v := ((62 : Nat) : Int)) hf (by decide)
  refine j_aload_n hO dX5_init_154 rfl 0 rfl ?_
  refine j_sipush hO dX5_init_155 (by decide) ?_
  refine kj_ai hx hb hts hK had hs hty.2.1 (n0 := 47) (i := 16) (N := 400) (n := 63) (i1 := 17) rfl rfl kK_63 rfl (by decide) om_1617 dX5_init_158 (Nat.le_of_ble_eq_true rfl) (jSl_m (by decide)) hf ?_
  have hf := jFr_w (n' := 64) hf (by decide)
  have hO := kj_ok (rm := ({ frames := 2, cells := 32, slots := jSl ftB ksK 79 - jSl ftB ksK 47, locals := 41 } : Room)) (ft := ftB) (Qs := Qs) (i := 17) (rk := 5) (post := fun _ _ => True) hc (by rw [lnK]; decide) (Nat.le_of_ble_eq_true rfl) (jSl_m (by decide)) (Or.inl rfl)
  refine kj_pqa hx hb hts hK had hs hown hin2 (n0 := 47) (i := 17) (v := 63) (by rw [lnK]; decide) (by unfold ri_; omega) (tkk kK_46 (by decide)) fB_8_19 rfl ff_X5_70 dX5_init_160 (fun M1 e1 => ?_)
  subst e1
  have hf := jFr_up (c := 46) (i := 19) (v := ((63 : Nat) : Int)) hf (by decide)
  refine j_aload_n hO dX5_init_163 rfl 0 rfl ?_
  refine kj_new hx hb hts hK had hs hown (n0 := 47) (i := 17) (n := 64) (i1 := 18) rfl rfl kK_64 nc_X5_73 dX5_init_164 (Nat.le_of_ble_eq_true rfl) (jSl_m (by decide)) hf ?_
  have hf := jFr_w (n' := 65) hf (by decide)
  have hO := kj_ok (rm := ({ frames := 2, cells := 32, slots := jSl ftB ksK 79 - jSl ftB ksK 47, locals := 41 } : Room)) (ft := ftB) (Qs := Qs) (i := 18) (rk := 5) (post := fun _ _ => True) hc (by rw [lnK]; decide) (Nat.le_of_ble_eq_true rfl) (jSl_m (by decide)) (Or.inl rfl)
  refine j_dup hO dX5_init_167 rfl ?_
  refine j_aload_n hO dX5_init_168 rfl 1 rfl ?_
  refine kj_call hx hb hts hK had hs hml hown hgo hXc hXt (n0 := 47) (i := 18) (nn := 65) (i2 := 32) (c0 := 64) rfl rfl (c_X8_init_64 (l := l) (D := D) (cy := cy) (xs := xs) (L := L) had) rfl om_1739 ⟨rfl, rfl, Nat.le_of_ble_eq_true rfl, Nat.le_of_ble_eq_true rfl⟩ [.ref (ad 8)] ⟨om_1740, om_1741, om_422⟩ rfl hd_X8_init rfl (Nat.le_of_ble_eq_true rfl) dX5_init_169 (by rw [lnK]; decide) (Nat.le_of_ble_eq_true rfl) (jSl_m (by decide)) (P := fun M1 => M1 = T_X8_init_64 _) ⟨rfl, hf, rfl⟩ (fun M1 e1 => ?_)
  subst e1
  have hf := fr_X8_init_64 (n := 79) (by decide) (jFr_w (n' := 79) hf (by decide))
  have hO := kj_ok (rm := ({ frames := 2, cells := 32, slots := jSl ftB ksK 79 - jSl ftB ksK 47, locals := 41 } : Room)) (ft := ftB) (Qs := Qs) (i := 32) (rk := 5) (post := fun _ _ => True) hc (by rw [lnK]; decide) (Nat.le_of_ble_eq_true rfl) (jSl_m (by decide)) (Or.inl rfl)
  refine kj_pq hx hb hts hK had hs hown hin2 (n0 := 47) (i := 32) (v := 64) (by rw [lnK]; decide) (by unfold ri_; omega) (tkk kK_46 (by decide)) fB_8_20 rfl ff_X5_78 dX5_init_172 (fun M1 e1 => ?_)
  subst e1
  have hf := jFr_up (c := 46) (i := 20) (v := ((64 : Nat) : Int)) hf (by decide)
  exact hret _ _ _ dX5_init_175 hF
set_option maxHeartbeats 4000000 in
set_option maxRecDepth 100000 in
theorem c_X8_init_97 {l : Launch} {D : va_G} {cy : Nat → ClassId} {ad : Nat → Nat} {xs : Nat → Int} {L b0 : Nat} (had : ∀ k, k < ksK.length → ad k = b0 + k) : jKN l D vwCl (tyB cy) cy ad ftB ksK (XtB ad xs L) yX8_init (.code yX8_init cX8_init 2 none :: Om) ({ frames := 1, cells := 14, slots := jSl ftB ksK 112 - jSl ftB ksK 98, locals := 20 } : Room) b0 98 14 (W_X8_init_97 ad) := by
  refine jKN_of (y := yX8_init) (cc := cX8_init) (nL := 2) (rm := ({ frames := 1, cells := 14, slots := jSl ftB ksK 112 - jSl ftB ksK 98, locals := 20 } : Room)) (own := RX8) (tyB_ok cy) had (XtB_ok ad xs L) Om_good (by decide) rfl rfl ?_
  intro post av M hF
  obtain ⟨rfl, hf, hF⟩ := hF
  refine ⟨Nat.le_of_ble_eq_true rfl, fun p e s m below meth c Qs hc hin2 hret => ?_⟩
  obtain ⟨hx, hb, hml, hown, hts, hK, hty, -, hgo, hXc, hXt, hs⟩ := id hc
  have hO := kj_ok (rm := ({ frames := 1, cells := 14, slots := jSl ftB ksK 112 - jSl ftB ksK 98, locals := 20 } : Room)) (ft := ftB) (Qs := Qs) (i := 0) (rk := 5) (post := fun _ _ => True) hc (by rw [lnK]; decide) (Nat.le_of_ble_eq_true rfl) (jSl_m (by decide)) (Or.inl rfl)
  refine j_aload_n hO dX8_init_0 rfl 0 rfl ?_
  refine kj_obj hx hb hml hts hown ⟨om_1723, om_1612, om_1613⟩ dX8_init_1 (Nat.le_of_ble_eq_true rfl) (Nat.le_of_ble_eq_true rfl) (Nat.le_of_ble_eq_true rfl) ?_
  refine j_aload_n hO dX8_init_4 rfl 0 rfl ?_
  refine j_aload_n hO dX8_init_5 rfl 1 rfl ?_
  refine kj_pq hx hb hts hK had hs hown hin2 (n0 := 98) (i := 0) (v := 8) (by rw [lnK]; decide) (by unfold ri_; omega) (tkk kK_97 (by decide)) fB_11_0 rfl ff_X8_9 dX8_init_6 (fun M1 e1 => ?_)
  subst e1
  have hf := jFr_up (c := 97) (i := 0) (v := ((8 : Nat) : Int)) hf (by decide)
  refine j_aload_n hO dX8_init_9 rfl 0 rfl ?_
  refine j_sipush hO dX8_init_10 (by decide) ?_
  refine kj_ai hx hb hts hK had hs hty.2.1 (n0 := 98) (i := 0) (N := 401) (n := 98) (i1 := 1) rfl rfl kK_98 rfl (by decide) om_1617 dX8_init_13 (Nat.le_of_ble_eq_true rfl) (jSl_m (by decide)) hf ?_
  have hf := jFr_w (n' := 99) hf (by decide)
  have hO := kj_ok (rm := ({ frames := 1, cells := 14, slots := jSl ftB ksK 112 - jSl ftB ksK 98, locals := 20 } : Room)) (ft := ftB) (Qs := Qs) (i := 1) (rk := 5) (post := fun _ _ => True) hc (by rw [lnK]; decide) (Nat.le_of_ble_eq_true rfl) (jSl_m (by decide)) (Or.inl rfl)
  refine kj_pqa hx hb hts hK had hs hown hin2 (n0 := 98) (i := 1) (v := 98) (by rw [lnK]; decide) (by unfold ri_; omega) (tkk kK_97 (by decide)) fB_11_2 rfl ff_X8_17 dX8_init_15 (fun M1 e1 => ?_)
  subst e1
  have hf := jFr_up (c := 97) (i := 2) (v := ((98 : Nat) : Int)) hf (by decide)
  refine j_aload_n hO dX8_init_18 rfl 0 rfl ?_
  refine j_sipush hO dX8_init_19 (by decide) ?_
  refine kj_ai hx hb hts hK had hs hty.2.1 (n0 := 98) (i := 1) (N := 4108) (n := 99) (i1 := 2) rfl rfl kK_99 rfl (by decide) om_1617 dX8_init_22 (Nat.le_of_ble_eq_true rfl) (jSl_m (by decide)) hf ?_
  have hf := jFr_w (n' := 100) hf (by decide)
  have hO := kj_ok (rm := ({ frames := 1, cells := 14, slots := jSl ftB ksK 112 - jSl ftB ksK 98, locals := 20 } : Room)) (ft := ftB) (Qs := Qs) (i := 2) (rk := 5) (post := fun _ _ => True) hc (by rw [lnK]; decide) (Nat.le_of_ble_eq_true rfl) (jSl_m (by decide)) (Or.inl rfl)
  refine kj_pqa hx hb hts hK had hs hown hin2 (n0 := 98) (i := 2) (v := 99) (by rw [lnK]; decide) (by unfold ri_; omega) (tkk kK_97 (by decide)) fB_11_3 rfl ff_X8_21 dX8_init_24 (fun M1 e1 => ?_)
  subst e1
  have hf := jFr_up (c := 97) (i := 3) (v := ((99 : Nat) : Int)) hf (by decide)
  refine j_aload_n hO dX8_init_27 rfl 0 rfl ?_
  refine j_sipush hO dX8_init_28 (by decide) ?_
  refine kj_ai hx hb hts hK had hs hty.2.1 (n0 := 98) (i := 2) (N := 4108) (n := 100) (i1 := 3) rfl rfl kK_100 rfl (by decide) om_1617 dX8_init_31 (Nat.le_of_ble_eq_true rfl) (jSl_m (by decide)) hf ?_
  have hf := jFr_w (n' := 101) hf (by decide)
  have hO := kj_ok (rm := ({ frames := 1, cells := 14, slots := jSl ftB ksK 112 - jSl ftB ksK 98, locals := 20 } : Room)) (ft := ftB) (Qs := Qs) (i := 3) (rk := 5) (post := fun _ _ => True) hc (by rw [lnK]; decide) (Nat.le_of_ble_eq_true rfl) (jSl_m (by decide)) (Or.inl rfl)
  refine kj_pqa hx hb hts hK had hs hown hin2 (n0 := 98) (i := 3) (v := 100) (by rw [lnK]; decide) (by unfold ri_; omega) (tkk kK_97 (by decide)) fB_11_4 rfl ff_X8_24 dX8_init_33 (fun M1 e1 => ?_)
  subst e1
  have hf := jFr_up (c := 97) (i := 4) (v := ((100 : Nat) : Int)) hf (by decide)
  refine j_aload_n hO dX8_init_36 rfl 0 rfl ?_
  refine j_sipush hO dX8_init_37 (by decide) ?_
  refine kj_ai hx hb hts hK had hs hty.2.1 (n0 := 98) (i := 3) (N := 400) (n := 101) (i1 := 4) rfl rfl kK_101 rfl (by decide) om_1617 dX8_init_40 (Nat.le_of_ble_eq_true rfl) (jSl_m (by decide)) hf ?_
  have hf := jFr_w (n' := 102) hf (by decide)
  have hO := kj_ok (rm := ({ frames := 1, cells := 14, slots := jSl ftB ksK 112 - jSl ftB ksK 98, locals := 20 } : Room)) (ft := ftB) (Qs := Qs) (i := 4) (rk := 5) (post := fun _ _ => True) hc (by rw [lnK]; decide) (Nat.le_of_ble_eq_true rfl) (jSl_m (by decide)) (Or.inl rfl)
  refine kj_pqa hx hb hts hK had hs hown hin2 (n0 := 98) (i := 4) (v := 101) (by rw [lnK]; decide) (by unfold ri_; omega) (tkk kK_97 (by decide)) fB_11_5 rfl ff_X8_27 dX8_init_42 (fun M1 e1 => ?_)
  subst e1
  have hf := jFr_up (c := 97) (i := 5) (v := ((101 : Nat) : Int)) hf (by decide)
  refine j_aload_n hO dX8_init_45 rfl 0 rfl ?_
  refine j_sipush hO dX8_init_46 (by decide) ?_
  refine kj_ai hx hb hts hK had hs hty.2.1 (n0 := 98) (i := 4) (N := 400) (n := 102) (i1 := 5) rfl rfl kK_102 rfl (by decide) om_1617 dX8_init_49 (Nat.le_of_ble_eq_true rfl) (jSl_m (by decide)) hf ?_
  have hf := jFr_w (n' := 103) hf (by decide)
  have hO := kj_ok (rm := ({ frames := 1, cells := 14, slots := jSl ftB ksK 112 - jSl ftB ksK 98, locals := 20 } : Room)) (ft := ftB) (Qs := Qs) (i := 5) (rk := 5) (post := fun _ _ => True) hc (by rw [lnK]; decide) (Nat.le_of_ble_eq_true rfl) (jSl_m (by decide)) (Or.inl rfl)
  refine kj_pqa hx hb hts hK had hs hown hin2 (n0 := 98) (i := 5) (v := 102) (by rw [lnK]; decide) (by unfold ri_; omega) (tkk kK_97 (by decide)) fB_11_6 rfl ff_X8_30 dX8_init_51 (fun M1 e1 => ?_)
  subst e1
  have hf := jFr_up (c := 97) (i := 6) (v := ((102 : Nat) : Int)) hf (by decide)
  refine j_aload_n hO dX8_init_54 rfl 0 rfl ?_
  refine j_sipush hO dX8_init_55 (by decide) ?_
  refine kj_ai hx hb hts hK had hs hty.2.1 (n0 := 98) (i := 5) (N := 400) (n := 103) (i1 := 6) rfl rfl kK_103 rfl (by decide) om_1617 dX8_init_58 (Nat.le_of_ble_eq_true rfl) (jSl_m (by decide)) hf ?_
  have hf := jFr_w (n' := 104) hf (by decide)
  have hO := kj_ok (rm := ({ frames := 1, cells := 14, slots := jSl ftB ksK 112 - jSl ftB ksK 98, locals := 20 } : Room)) (ft := ftB) (Qs := Qs) (i := 6) (rk := 5) (post := fun _ _ => True) hc (by rw [lnK]; decide) (Nat.le_of_ble_eq_true rfl) (jSl_m (by decide)) (Or.inl rfl)
  refine kj_pqa hx hb hts hK had hs hown hin2 (n0 := 98) (i := 6) (v := 103) (by rw [lnK]; decide) (by unfold ri_; omega) (tkk kK_97 (by decide)) fB_11_7 rfl ff_X8_33 dX8_init_60 (fun M1 e1 => ?_)
  subst e1
  have hf := jFr_up (c := 97) (i := 7) (v := ((103 : Nat) : Int)) hf (by decide)
  refine j_aload_n hO dX8_init_63 rfl 0 rfl ?_
  refine j_sipush hO dX8_init_64 (by decide) ?_
  refine kj_ai hx hb hts hK had hs hty.2.1 (n0 := 98) (i := 6) (N := 400) (n := 104) (i1 := 7) rfl rfl kK_104 rfl (by decide) om_1617 dX8_init_67 (Nat.le_of_ble_eq_true rfl) (jSl_m (by decide)) hf ?_
  have hf := jFr_w (n' := 105) hf (by decide)
  have hO := kj_ok (rm := ({ frames := 1, cells := 14, slots := jSl ftB ksK 112 - jSl ftB ksK 98, locals := 20 } : Room)) (ft := ftB) (Qs := Qs) (i := 7) (rk := 5) (post := fun _ _ => True) hc (by rw [lnK]; decide) (Nat.le_of_ble_eq_true rfl) (jSl_m (by decide)) (Or.inl rfl)
  refine kj_pqa hx hb hts hK had hs hown hin2 (n0 := 98) (i := 7) (v := 104) (by rw [lnK]; decide) (by unfold ri_; omega) (tkk kK_97 (by decide)) fB_11_8 rfl ff_X8_36 dX8_init_69 (fun M1 e1 => ?_)
  subst e1
  have hf := jFr_up (c := 97) (i := 8) (v := ((104 : Nat) : Int)) hf (by decide)
  refine j_aload_n hO dX8_init_72 rfl 0 rfl ?_
  refine j_sipush hO dX8_init_73 (by decide) ?_
  refine kj_ai hx hb hts hK had hs hty.2.1 (n0 := 98) (i := 7) (N := 400) (n := 105) (i1 := 8) rfl rfl kK_105 rfl (by decide) om_1617 dX8_init_76 (Nat.le_of_ble_eq_true rfl) (jSl_m (by decide)) hf ?_
  have hf := jFr_w (n' := 106) hf (by decide)
  have hO := kj_ok (rm := ({ frames := 1, cells := 14, slots := jSl ftB ksK 112 - jSl ftB ksK 98, locals := 20 } : Room)) (ft := ftB) (Qs := Qs) (i := 8) (rk := 5) (post := fun _ _ => True) hc (by rw [lnK]; decide) (Nat.le_of_ble_eq_true rfl) (jSl_m (by decide)) (Or.inl rfl)
  refine kj_pqa hx hb hts hK had hs hown hin2 (n0 := 98) (i := 8) (v := 105) (by rw [lnK]; decide) (by unfold ri_; omega) (tkk kK_97 (by decide)) fB_11_10 rfl ff_X8_39 dX8_init_78 (fun M1 e1 => ?_)
  subst e1
  have hf := jFr_up (c := 97) (i := 10) (v := ((105 : Nat) : Int)) hf (by decide)
  refine j_aload_n hO dX8_init_81 rfl 0 rfl ?_
  refine j_sipush hO dX8_init_82 (by decide) ?_
  refine kj_ai hx hb hts hK had hs hty.2.1 (n0 := 98) (i := 8) (N := 400) (n := 106) (i1 := 9) rfl rfl kK_106 rfl (by decide) om_1617 dX8_init_85 (Nat.le_of_ble_eq_true rfl) (jSl_m (by decide)) hf ?_
  have hf := jFr_w (n' := 107) hf (by decide)
  have hO := kj_ok (rm := ({ frames := 1, cells := 14, slots := jSl ftB ksK 112 - jSl ftB ksK 98, locals := 20 } : Room)) (ft := ftB) (Qs := Qs) (i := 9) (rk := 5) (post := fun _ _ => True) hc (by rw [lnK]; decide) (Nat.le_of_ble_eq_true rfl) (jSl_m (by decide)) (Or.inl rfl)
  refine kj_pqa hx hb hts hK had hs hown hin2 (n0 := 98) (i := 9) (v := 106) (by rw [lnK]; decide) (by unfold ri_; omega) (tkk kK_97 (by decide)) fB_11_12 rfl ff_X8_42 dX8_init_87 (fun M1 e1 => ?_)
  subst e1
  have hf := jFr_up (c := 97) (i := 12) (v := ((106 : Nat) : Int)) hf (by decide)
  refine j_aload_n hO dX8_init_90 rfl 0 rfl ?_
  refine j_sipush hO dX8_init_91 (by decide) ?_
  refine kj_ai hx hb hts hK had hs hty.2.1 (n0 := 98) (i := 9) (N := 400) (n := 107) (i1 := 10) rfl rfl kK_107 rfl (by decide) om_1617 dX8_init_94 (Nat.le_of_ble_eq_true rfl) (jSl_m (by decide)) hf ?_
  have hf := jFr_w (n' := 108) hf (by decide)
  have hO := kj_ok (rm := ({ frames := 1, cells := 14, slots := jSl ftB ksK 112 - jSl ftB ksK 98, locals := 20 } : Room)) (ft := ftB) (Qs := Qs) (i := 10) (rk := 5) (post := fun _ _ => True) hc (by rw [lnK]; decide) (Nat.le_of_ble_eq_true rfl) (jSl_m (by decide)) (Or.inl rfl)
  refine kj_pqa hx hb hts hK had hs hown hin2 (n0 := 98) (i := 10) (v := 107) (by rw [lnK]; decide) (by unfold ri_; omega) (tkk kK_97 (by decide)) fB_11_13 rfl ff_X8_45 dX8_init_96 (fun M1 e1 => ?_)
  subst e1
  have hf := jFr_up (c := 97) (i := 13) (v := ((107 : Nat) : Int)) hf (by decide)
  refine j_aload_n hO dX8_init_99 rfl 0 rfl ?_
  refine j_sipush hO dX8_init_100 (by decide) ?_
  refine kj_ai hx hb hts hK had hs hty.2.1 (n0 := 98) (i := 10) (N := 400) (n := 108) (i1 := 11) rfl rfl kK_108 rfl (by decide) om_1617 dX8_init_103 (Nat.le_of_ble_eq_true rfl) (jSl_m (by decide)) hf ?_
  have hf := jFr_w (n' := 109) hf (by decide)
  have hO := kj_ok (rm := ({ frames := 1, cells := 14, slots := jSl ftB ksK 112 - jSl ftB ksK 98, locals := 20 } : Room)) (ft := ftB) (Qs := Qs) (i := 11) (rk := 5) (post := fun _ _ => True) hc (by rw [lnK]; decide) (Nat.le_of_ble_eq_true rfl) (jSl_m (by decide)) (Or.inl rfl)
  refine kj_pqa hx hb hts hK had hs hown hin2 (n0 := 98) (i := 11) (v := 108) (by rw [lnK]; decide) (by unfold ri_; omega) (tkk kK_97 (by decide)) fB_11_14 rfl ff_X8_48 dX8_init_105 (fun M1 e1 => ?_)
  subst e1
  have hf := jFr_up (c := 97) (i := 14) (v := ((108 : Nat) : Int)) hf (by decide)
  refine j_aload_n hO dX8_init_108 rfl 0 rfl ?_
  refine j_sipush hO dX8_init_109 (by decide) ?_
  refine kj_ai hx hb hts hK had hs hty.2.1 (n0 := 98) (i := 11) (N := 400) (n := 109) (i1 := 12) rfl rfl kK_109 rfl (by decide) om_1617 dX8_init_112 (Nat.le_of_ble_eq_true rfl) (jSl_m (by decide)) hf ?_
  have hf := jFr_w (n' := 110) hf (by decide)
  have hO := kj_ok (rm := ({ frames := 1, cells := 14, slots := jSl ftB ksK 112 - jSl ftB ksK 98, locals := 20 } : Room)) (ft := ftB) (Qs := Qs) (i := 12) (rk := 5) (post := fun _ _ => True) hc (by rw [lnK]; decide) (Nat.le_of_ble_eq_true rfl) (jSl_m (by decide)) (Or.inl rfl)
  refine kj_pqa hx hb hts hK had hs hown hin2 (n0 := 98) (i := 12) (v := 109) (by rw [lnK]; decide) (by unfold ri_; omega) (tkk kK_97 (by decide)) fB_11_15 rfl ff_X8_51 dX8_init_114 (fun M1 e1 => ?_)
  subst e1
  have hf := jFr_up (c := 97) (i := 15) (v := ((109 : Nat) : Int)) hf (by decide)
  refine j_aload_n hO dX8_init_117 rfl 0 rfl ?_
  refine j_sipush hO dX8_init_118 (by decide) ?_
  refine kj_ai hx hb hts hK had hs hty.2.1 (n0 := 98) (i := 12) (N := 400) (n := 110) (i1 := 13) rfl rfl kK_110 rfl (by decide) om_1617 dX8_init_121 (Nat.le_of_ble_eq_true rfl) (jSl_m (by decide)) hf ?_
  have hf := jFr_w (n' := 111) hf (by decide)
  have hO := kj_ok (rm := ({ frames := 1, cells := 14, slots := jSl ftB ksK 112 - jSl ftB ksK 98, locals := 20 } : Room)) (ft := ftB) (Qs := Qs) (i := 13) (rk := 5) (post := fun _ _ => True) hc (by rw [lnK]; decide) (Nat.le_of_ble_eq_true rfl) (jSl_m (by decide)) (Or.inl rfl)
  refine kj_pqa hx hb hts hK had hs hown hin2 (n0 := 98) (i := 13) (v := 110) (by rw [lnK]; decide) (by unfold ri_; omega) (tkk kK_97 (by decide)) fB_11_16 rfl ff_X8_54 dX8_init_123 (fun M1 e1 => ?_)
  subst e1
  have hf := jFr_up (c := 97) (i := 16) (v := ((110 : Nat) : Int)) hf (by decide)
  refine j_aload_n hO dX8_init_126 rfl 0 rfl ?_
  refine j_sipush hO dX8_init_127 (by decide) ?_
  refine kj_ai hx hb hts hK had hs hty.2.1 (n0 := 98) (i := 13) (N := 512) (n := 111) (i1 := 14) rfl rfl kK_111 rfl (by decide) om_1617 dX8_init_130 (Nat.le_of_ble_eq_true rfl) (jSl_m (by decide)) hf ?_
  have hf := jFr_w (n' := 112) hf (by decide)
  have hO := kj_ok (rm := ({ frames := 1, cells := 14, slots := jSl ftB ksK 112 - jSl ftB ksK 98, locals := 20 } : Room)) (ft := ftB) (Qs := Qs) (i := 14) (rk := 5) (post := fun _ _ => True) hc (by rw [lnK]; decide) (Nat.le_of_ble_eq_true rfl) (jSl_m (by decide)) (Or.inl rfl)
  refine kj_pqa hx hb hts hK had hs hown hin2 (n0 := 98) (i := 14) (v := 111) (by rw [lnK]; decide) (by unfold ri_; omega) (tkk kK_97 (by decide)) fB_11_17 rfl ff_X8_57 dX8_init_132 (fun M1 e1 => ?_)
  subst e1
  have hf := jFr_up (c := 97) (i := 17) (v := ((111 : Nat) : Int)) hf (by decide)
  exact hret _ _ _ dX8_init_135 hF
