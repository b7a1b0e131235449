set_option maxHeartbeats 4000000 in
set_option maxRecDepth 100000 in
theorem c_X5_init_79 {l : Launch} {D : va_G} {cy : Nat → ClassId} {ad : Nat → Nat} {xs : Nat → Int} {L b0 : Nat} (had : ∀ k, k < ksK.length → ad k = b0 + k) : jKN l D vwCl (tyB cy) cy ad ftB ksK (XtB ad xs L) yX5_init (.code yX5_init cX5_init 2 none :: Om) ({ frames := 2, cells := 32, slots := jSl ftB ksK 112 - jSl ftB ksK 80, locals := 41 } : Room) b0 80 32 (W_X5_init_79 ad) := by
  refine jKN_of (y := yX5_init) (cc := cX5_init) (nL := 2) (rm := ({ frames := 2, cells := 32, slots := jSl ftB ksK 112 - jSl ftB ksK 80, locals := 41 } : Room)) (own := RX5) (tyB_ok cy) had (XtB_ok ad xs L) Om_good (by decide) rfl rfl ?_
  intro post av M hF
  obtain ⟨rfl, hf, hF⟩ := hF
  refine ⟨Nat.le_of_ble_eq_true rfl, fun p e s m below meth c Qs hc hin2 hret => ?_⟩
  obtain ⟨hx, hb, hml, hown, hts, hK, hty, -, hgo, hXc, hXt, hs⟩ := id hc
  have hO := kj_ok (rm := ({ frames := 2, cells := 32, slots := jSl ftB ksK 112 - jSl ftB ksK 80, locals := 41 } : Room)) (ft := ftB) (Qs := Qs) (i := 0) (rk := 5) (post := fun _ _ => True) hc (by rw [lnK]; decide) (Nat.le_of_ble_eq_true rfl) (jSl_m (by decide)) (Or.inl rfl)
  refine j_aload_n hO dX5_init_0 rfl 0 rfl ?_
  refine kj_obj hx hb hml hts hown ⟨om_1702, om_1612, om_1613⟩ dX5_init_1 (Nat.le_of_ble_eq_true rfl) (Nat.le_of_ble_eq_true rfl) (Nat.le_of_ble_eq_true rfl) ?_
  refine j_aload_n hO dX5_init_4 rfl 0 rfl ?_
  refine j_sipush hO dX5_init_5 (by decide) ?_
  refine kj_ai hx hb hts hK had hs hty.2.1 (n0 := 80) (i := 0) (N := 400) (n := 80) (i1 := 1) rfl rfl kK_80 rfl (by decide) om_1617 dX5_init_8 (Nat.le_of_ble_eq_true rfl) (jSl_m (by decide)) hf ?_
  have hf := jFr_w (n' := 81) hf (by decide)
  have hO := kj_ok (rm := ({ frames := 2, cells := 32, slots := jSl ftB ksK 112 - jSl ftB ksK 80, locals := 41 } : Room)) (ft := ftB) (Qs := Qs) (i := 1) (rk := 5) (post := fun _ _ => True) hc (by rw [lnK]; decide) (Nat.le_of_ble_eq_true rfl) (jSl_m (by decide)) (Or.inl rfl)
  refine kj_pqa hx hb hts hK had hs hown hin2 (n0 := 80) (i := 1) (v := 80) (by rw [lnK]; decide) (by unfold ri_; omega) (tkk kK_79 (by decide)) fB_8_1 rfl ff_X5_11 dX5_init_10 (fun M1 e1 => ?_)
  subst e1
  have hf := jFr_up (c := 79) (i := 1) (v := ((80 : Nat) : Int)) hf (by decide)
  refine j_aload_n hO dX5_init_13 rfl 0 rfl ?_
  refine j_sipush hO dX5_init_14 (by decide) ?_
  refine kj_ai hx hb hts hK had hs hty.2.1 (n0 := 80) (i := 1) (N := 400) (n := 81) (i1 := 2) rfl rfl kK_81 rfl (by decide) om_1617 dX5_init_17 (Nat.le_of_ble_eq_true rfl) (jSl_m (by decide)) hf ?_
  have hf := jFr_w (n' := 82) hf (by decide)
  have hO := kj_ok (rm := ({ frames := 2, cells := 32, slots := jSl ftB ksK 112 - jSl ftB ksK 80, locals := 41 } : Room)) (ft := ftB) (Qs := Qs) (i := 2) (rk := 5) (post := fun _ _ => True) hc (by rw [lnK]; decide) (Nat.le_of_ble_eq_true rfl) (jSl_m (by decide)) (Or.inl rfl)
  refine kj_pqa hx hb hts hK had hs hown hin2 (n0 := 80) (i := 2) (v := 81) (by rw [lnK]; decide) (by unfold ri_; omega) (tkk kK_79 (by decide)) fB_8_2 rfl ff_X5_15 dX5_init_19 (fun M1 e1 => ?_)
  subst e1
  have hf := jFr_up (c := 79) (i := 2) (v := ((81 : Nat) : Int)) hf (by decide)
  refine j_aload_n hO dX5_init_22 rfl 0 rfl ?_
  refine j_sipush hO dX5_init_23 (by decide) ?_
  refine kj_ai hx hb hts hK had hs hty.2.1 (n0 := 80) (i := 2) (N := 400) (n := 82) (i1 := 3) rfl rfl kK_82 rfl (by decide) om_1617 dX5_init_26 (Nat.le_of_ble_eq_true rfl) (jSl_m (by decide)) hf ?_
  have hf := jFr_w (n' := 83) hf (by decide)
  have hO := kj_ok (rm := ({ frames := 2, cells := 32, slots := jSl ftB ksK 112 - jSl ftB ksK 80, locals := 41 } : Room)) (ft := ftB) (Qs := Qs) (i := 3) (rk := 5) (post := fun _ _ => True) hc (by rw [lnK]; decide) (Nat.le_of_ble_eq_true rfl) (jSl_m (by decide)) (Or.inl rfl)
  refine kj_pqa hx hb hts hK had hs hown hin2 (n0 := 80) (i := 3) (v := 82) (by rw [lnK]; decide) (by unfold ri_; omega) (tkk kK_79 (by decide)) fB_8_3 rfl ff_X5_18 dX5_init_28 (fun M1 e1 => ?_)
  subst e1
  have hf := jFr_up (c := 79) (i := 3) (v := ((82 : Nat) : Int)) hf (by decide)
  refine j_aload_n hO dX5_init_31 rfl 0 rfl ?_
  refine j_sipush hO dX5_init_32 (by decide) ?_
  refine kj_ai hx hb hts hK had hs hty.2.1 (n0 := 80) (i := 3) (N := 401) (n := 83) (i1 := 4) rfl rfl kK_83 rfl (by decide) om_1617 dX5_init_35 (Nat.le_of_ble_eq_true rfl) (jSl_m (by decide)) hf ?_
  have hf := jFr_w (n' := 84) hf (by decide)
  have hO := kj_ok (rm := ({ frames := 2, cells := 32, slots := jSl ftB ksK 112 - jSl ftB ksK 80, locals := 41 } : Room)) (ft := ftB) (Qs := Qs) (i := 4) (rk := 5) (post := fun _ _ => True) hc (by rw [lnK]; decide) (Nat.le_of_ble_eq_true rfl) (jSl_m (by decide)) (Or.inl rfl)
  refine kj_pqa hx hb hts hK had hs hown hin2 (n0 := 80) (i := 4) (v := 83) (by rw [lnK]; decide) (by unfold ri_; omega) (tkk kK_79 (by decide)) fB_8_4 rfl ff_X5_21 dX5_init_37 (fun M1 e1 => ?_)
  subst e1
  have hf := jFr_up (c := 79) (i := 4) (v := ((83 : Nat) : Int)) hf (by decide)
  refine j_aload_n hO dX5_init_40 rfl 0 rfl ?_
  refine j_sipush hO dX5_init_41 (by decide) ?_
  refine kj_ai hx hb hts hK had hs hty.2.1 (n0 := 80) (i := 4) (N := 400) (n := 84) (i1 := 5) rfl rfl kK_84 rfl (by decide) om_1617 dX5_init_44 (Nat.le_of_ble_eq_true rfl) (jSl_m (by decide)) hf ?_
  have hf := jFr_w (n' := 85) hf (by decide)
  have hO := kj_ok (rm := ({ frames := 2, cells := 32, slots := jSl ftB ksK 112 - jSl ftB ksK 80, locals := 41 } : Room)) (ft := ftB) (Qs := Qs) (i := 5) (rk := 5) (post := fun _ _ => True) hc (by rw [lnK]; decide) (Nat.le_of_ble_eq_true rfl) (jSl_m (by decide)) (Or.inl rfl)
  refine kj_pqa hx hb hts hK had hs hown hin2 (n0 := 80) (i := 5) (v := 84) (by rw [lnK]; decide) (by unfold ri_; omega) (tkk kK_79 (by decide)) fB_8_5 rfl ff_X5_24 dX5_init_46 (fun M1 e1 => ?_)
  subst e1
  have hf := jFr_up (c := 79) (i := 5) (v := ((84 : Nat) : Int)) hf (by decide)
  refine j_aload_n hO dX5_init_49 rfl 0 rfl ?_
  refine j_sipush hO dX5_init_50 (by decide) ?_
  refine kj_ai hx hb hts hK had hs hty.2.1 (n0 := 80) (i := 5) (N := 400) (n := 85) (i1 := 6) rfl rfl kK_85 rfl (by decide) om_1617 dX5_init_53 (Nat.le_of_ble_eq_true rfl) (jSl_m (by decide)) hf ?_
  have hf := jFr_w (n' := 86) hf (by decide)
  have hO := kj_ok (rm := ({ frames := 2, cells := 32, slots := jSl ftB ksK 112 - jSl ftB ksK 80, locals := 41 } : Room)) (ft := ftB) (Qs := Qs) (i := 6) (rk := 5) (post := fun _ _ => True) hc (by rw [lnK]; decide) (Nat.le_of_ble_eq_true rfl) (jSl_m (by decide)) (Or.inl rfl)
  refine kj_pqa hx hb hts hK had hs hown hin2 (n0 := 80) (i := 6) (v := 85) (by rw [lnK]; decide) (by unfold ri_; omega) (tkk kK_79 (by decide)) fB_8_6 rfl ff_X5_27 dX5_init_55 (fun M1 e1 => ?_)
  subst e1
  have hf := jFr_up (c := 79) (i := 6) (v := ((85 : Nat) : Int)) hf (by decide)
  refine j_aload_n hO dX5_init_58 rfl 0 rfl ?_
  refine j_sipush hO dX5_init_59 (by decide) ?_
  refine kj_ai hx hb hts hK had hs hty.2.1 (n0 := 80) (i := 6) (N := 400) (n := 86) (i1 := 7) rfl rfl kK_86 rfl (by decide) om_1617 dX5_init_62 (Nat.le_of_ble_eq_true rfl) (jSl_m (by decide)) hf ?_
  have hf := jFr_w (n' := 87) hf (by decide)
  have hO := kj_ok (rm := ({ frames := 2, cells := 32, slots := jSl ftB ksK 112 - jSl ftB ksK 80, locals := 41 } : Room)) (ft := ftB) (Qs := Qs) (i := 7) (rk := 5) (post := fun _ _ => True) hc (by rw [lnK]; decide) (Nat.le_of_ble_eq_true rfl) (jSl_m (by decide)) (Or.inl rfl)
  refine kj_pqa hx hb hts hK had hs hown hin2 (n0 := 80) (i := 7) (v := 86) (by rw [lnK]; decide) (by unfold ri_; omega) (tkk kK_79 (by decide)) fB_8_7 rfl ff_X5_30 dX5_init_64 (fun M1 e1 => ?_)
  subst e1
  have hf := jFr_up (c := 79) (i := 7) (v := ((86 : Nat) : Int)) hf (by decide)
  refine j_aload_n hO dX5_init_67 rfl 0 rfl ?_
  refine j_sipush hO dX5_init_68 (by decide) ?_
  refine kj_ai hx hb hts hK had hs hty.2.1 (n0 := 80) (i := 7) (N := 400) (n := 87) (i1 := 8) rfl rfl kK_87 rfl (by decide) om_1617 dX5_init_71 (Nat.le_of_ble_eq_true rfl) (jSl_m (by decide)) hf ?_
  have hf := jFr_w (n' := 88) hf (by decide)
  have hO := kj_ok (rm := ({ frames := 2, cells := 32, slots := jSl ftB ksK 112 - jSl ftB ksK 80, locals := 41 } : Room)) (ft := ftB) (Qs := Qs) (i := 8) (rk := 5) (post := fun _ _ => True) hc (by rw [lnK]; decide) (Nat.le_of_ble_eq_true rfl) (jSl_m (by decide)) (Or.inl rfl)
  refine kj_pqa hx hb hts hK had hs hown hin2 (n0 := 80) (i := 8) (v := 87) (by rw [lnK]; decide) (by unfold ri_; omega) (tkk kK_79 (by decide)) fB_8_8 rfl ff_X5_35 dX5_init_73 (fun M1 e1 => ?_)
  subst e1
  have hf := jFr_up (c := 79) (i := 8) (v := ((87 : Nat) : Int)) hf (by decide)
  refine j_aload_n hO dX5_init_76 rfl 0 rfl ?_
  refine j_gq (v := 87) hO (tkk kK_79 (by decide)) fB_8_8 rfl fl_X5_35 dX5_init_77 (by rfl) ?_
  refine j_iconst hO dX5_init_80 ?_
  refine j_callSv hO (c_J7_fill_53178_B (l := l) (D := D) (cy := cy) (ad := ad) (xs := xs) (L := L) (ksB := ksK.take (80 + 8)) (by rw [tkl (by rw [lnK]; decide)]; exact jIn_b (fun k hk => had k (by rw [lnK]; omega)))) rfl om_497 ⟨rfl, rfl, Nat.le_of_ble_eq_true rfl, Nat.le_of_ble_eq_true rfl⟩ [.ref (ad 87), .int (Ii (-1))] mv_X5_38 hd_J7_fill_53178 rfl (Nat.le_of_ble_eq_true rfl) dX5_init_81 (P := fun _ M1 => M1 = filled _ 87 0 (400 : Nat) (-1)) ⟨87, 400, (-1), rfl, (tkk kK_87 (by decide)), by decide, rk_m1, p_fillI (by decide) rfl⟩ (fun M1 e1 => ?_)
  subst e1
  have hf := jFr_fl (c := 87) (f := 0) (t := (400 : Nat)) (v := (-1)) hf (by decide)
  refine j_aload_n hO dX5_init_84 rfl 0 rfl ?_
  refine j_sipush hO dX5_init_85 (by decide) ?_
  refine kj_al hx hb hts hK had hs hty.2.2.1 (n0 := 80) (i := 8) (N := 4000) (n := 88) (i1 := 9) rfl rfl kK_88 rfl (by decide) om_1622 dX5_init_88 (Nat.le_of_ble_eq_true rfl) (jSl_m (by decide)) hf ?_
  have hf := jFr_w (n' := 89) hf (by decide)
  have hO := kj_ok (rm := ({ frames := 2, cells := 32, slots := jSl ftB ksK 112 - jSl ftB ksK 80, locals := 41 } : Room)) (ft := ftB) (Qs := Qs) (i := 9) (rk := 5) (post := fun _ _ => True) hc (by rw [lnK]; decide) (Nat.le_of_ble_eq_true rfl) (jSl_m (by decide)) (Or.inl rfl)
  refine kj_pqa hx hb hts hK had hs hown hin2 (n0 := 80) (i := 9) (v := 88) (by rw [lnK]; decide) (by unfold ri_; omega) (tkk kK_79 (by decide)) fB_8_9 rfl ff_X5_44 dX5_init_90 (fun M1 e1 => ?_)
  subst e1
  have hf := jFr_up (c := 79) (i := 9) (v := ((88 : Nat) : Int)) hf (by decide)
  refine j_aload_n hO dX5_init_93 rfl 0 rfl ?_
  refine j_sipush hO dX5_init_94 (by decide) ?_
  refine kj_az hx hb hts hK had hs hty.2.2.2 (n0 := 80) (i := 9) (N := 4000) (n := 89) (i1 := 10) rfl rfl kK_89 rfl (by decide) om_1646 dX5_init_97 (Nat.le_of_ble_eq_true rfl) (jSl_m (by decide)) hf ?_
  have hf := jFr_w (n' := 90) hf (by decide)
  have hO := kj_ok (rm := ({ frames := 2, cells := 32, slots := jSl ftB ksK 112 - jSl ftB ksK 80, locals := 41 } : Room)) (ft := ftB) (Qs := Qs) (i := 10) (rk := 5) (post := fun _ _ => True) hc (by rw [lnK]; decide) (Nat.le_of_ble_eq_true rfl) (jSl_m (by decide)) (Or.inl rfl)
  refine kj_pqa hx hb hts hK had hs hown hin2 (n0 := 80) (i := 10) (v := 89) (by rw [lnK]; decide) (by unfold ri_; omega) (tkk kK_79 (by decide)) fB_8_10 rfl ff_X5_48 dX5_init_99 (fun M1 e1 => ?_)
  subst e1
  have hf := jFr_up (c := 79) (i := 10) (v := ((89 : Nat) : Int)) hf (by decide)
  refine j_aload_n hO dX5_init_102 rfl 0 rfl ?_
  refine j_bipush hO dX5_init_103 (by decide) ?_
  refine kj_ai hx hb hts hK had hs hty.2.1 (n0 := 80) (i := 10) (N := 108) (n := 90) (i1 := 11) rfl rfl kK_90 rfl (by decide) om_1617 dX5_init_105 (Nat.le_of_ble_eq_true rfl) (jSl_m (by decide)) hf ?_
  have hf := jFr_w (n' := 91) hf (by decide)
  have hO := kj_ok (rm := ({ frames := 2, cells := 32, slots := jSl ftB ksK 112 - jSl ftB ksK 80, locals := 41 } : Room)) (ft := ftB) (Qs := Qs) (i := 11) (rk := 5) (post := fun _ _ => True) hc (by rw [lnK]; decide) (Nat.le_of_ble_eq_true rfl) (jSl_m (by decide)) (Or.inl rfl)
  refine kj_pqa hx hb hts hK had hs hown hin2 (n0 := 80) (i := 11) (v := 90) (by rw [lnK]; decide) (by unfold ri_; omega) (tkk kK_79 (by decide)) fB_8_12 rfl ff_X5_52 dX5_init_107 (fun M1 e1 => ?_)
  subst e1
  have hf := jFr_up (c := 79) (i := 12) (v := ((90 : Nat) : Int)) hf (by decide)
  refine j_aload_n hO dX5_init_110 rfl 0 rfl ?_
  refine j_bipush hO dX5_init_111 (by decide) ?_
  refine kj_ai hx hb hts hK had hs hty.2.1 (n0 := 80) (i := 11) (N := 108) (n := 91) (i1 := 12) rfl rfl kK_91 rfl (by decide) om_1617 dX5_init_113 (Nat.le_of_ble_eq_true rfl) (jSl_m (by decide)) hf ?_
  have hf := jFr_w (n' := 92) hf (by decide)
  have hO := kj_ok (rm := ({ frames := 2, cells := 32, slots := jSl ftB ksK 112 - jSl ftB ksK 80, locals := 41 } : Room)) (ft := ftB) (Qs := Qs) (i := 12) (rk := 5) (post := fun _ _ => True) hc (by rw [lnK]; decide) (Nat.le_of_ble_eq_true rfl) (jSl_m (by decide)) (Or.inl rfl)
  refine kj_pqa hx hb hts hK had hs hown hin2 (n0 := 80) (i := 12) (v := 91) (by rw [lnK]; decide) (by unfold ri_; omega) (tkk kK_79 (by decide)) fB_8_13 rfl ff_X5_55 dX5_init_115 (fun M1 e1 => ?_)
  subst e1
  have hf := jFr_up (c := 79) (i := 13) (v := ((91 : Nat) : Int)) hf (by decide)
  refine j_aload_n hO dX5_init_118 rfl 0 rfl ?_
  refine j_sipush hO dX5_init_119 (by decide) ?_
  refine kj_az hx hb hts hK had hs hty.2.2.2 (n0 := 80) (i := 12) (N := 400) (n := 92) (i1 := 13) rfl rfl kK_92 rfl (by decide) om_1646 dX5_init_122 (Nat.le_of_ble_eq_true rfl) (jSl_m (by decide)) hf ?_
  have hf := jFr_w (n' := 93) hf (by decide)
  have hO := kj_ok (rm := ({ frames := 2, cells := 32, slots := jSl ftB ksK 112 - jSl ftB ksK 80, locals := 41 } : Room)) (ft := ftB) (Qs := Qs) (i := 13) (rk := 5) (post := fun _ _ => True) hc (by rw [lnK]; decide) (Nat.le_of_ble_eq_true rfl) (jSl_m (by decide)) (Or.inl rfl)
  refine kj_pqa hx hb hts hK had hs hown hin2 (n0 := 80) (i := 13) (v := 92) (by rw [lnK]; decide) (by unfold ri_; omega) (tkk kK_79 (by decide)) fB_8_14 rfl ff_X5_58 dX5_init_124 (fun M1 e1 => ?_)
  subst e1
  have hf := jFr_up (c := 79) (i := 14) (v := ((92 : Nat) : Int)) hf (by decide)
  refine j_aload_n hO dX5_init_127 rfl 0 rfl ?_
  refine j_sipush hO dX5_init_128 (by decide) ?_
  refine kj_ai hx hb hts hK had hs hty.2.1 (n0 := 80) (i := 13) (N := 400) (n := 93) (i1 := 14) rfl rfl kK_93 rfl (by decide) om_1617 dX5_init_131 (Nat.le_of_ble_eq_true rfl) (jSl_m (by decide)) hf ?_
  have hf := jFr_w (n' := 94) hf (by decide)
  have hO := kj_ok (rm := ({ frames := 2, cells := 32, slots := jSl ftB ksK 112 - jSl ftB ksK 80, locals := 41 } : Room)) (ft := ftB) (Qs := Qs) (i := 14) (rk := 5) (post := fun _ _ => True) hc (by rw [lnK]; decide) (Nat.le_of_ble_eq_true rfl) (jSl_m (by decide)) (Or.inl rfl)
  refine kj_pqa hx hb hts hK had hs hown hin2 (n0 := 80) (i := 14) (v := 93) (by rw [lnK]; decide) (by unfold ri_; omega) (tkk kK_79 (by decide)) fB_8_15 rfl ff_X5_61 dX5_init_133 (fun M1 e1 => ?_)
  subst e1
  have hf := jFr_up (c := 79) (i := 15) (v := ((93 : Nat) : Int)) hf (by decide)
  refine j_aload_n hO dX5_init_136 rfl 0 rfl ?_
  refine j_sipush hO dX5_init_137 (by decide) ?_
  refine kj_ai hx hb hts hK had hs hty.2.1 (n0 := 80) (i := 14) (N := 400) (n := 94) (i1 := 15) rfl rfl kK_94 rfl (by decide) om_1617 dX5_init_140 (Nat.le_of_ble_eq_true rfl) (jSl_m (by decide)) hf ?_
  have hf := jFr_w (n' := 95) hf (by decide)
  have hO := kj_ok (rm := ({ frames := 2, cells := 32, slots := jSl ftB ksK 112 - jSl ftB ksK 80, locals := 41 } : Room)) (ft := ftB) (Qs := Qs) (i := 15) (rk := 5) (post := fun _ _ => True) hc (by rw [lnK]; decide) (Nat.le_of_ble_eq_true rfl) (jSl_m (by decide)) (Or.inl rfl)
  refine kj_pqa hx hb hts hK had hs hown hin2 (n0 := 80) (i := 15) (v := 94) (by rw [lnK]; decide) (by unfold ri_; omega) (tkk kK_79 (by decide)) fB_8_17 rfl ff_X5_64 dX5_init_142 (fun M1 e1 => ?_)
  subst e1
  have hf := jFr_up (c := 79) (i := 17) (v := ((94 : Nat) : Int)) hf (by decide)
  refine j_aload_n hO dX5_init_145 rfl 0 rfl ?_
  refine j_sipush hO dX5_init_146 (by decide) ?_
  refine kj_ai hx hb hts hK had hs hty.2.1 (n0 := 80) (i := 15) (N := 400) (n := 95) (i1 := 16) rfl rfl kK_95 rfl (by decide) om_1617 dX5_init_149 (Nat.le_of_ble_eq_true rfl) (jSl_m (by decide)) hf ?_
  have hf := jFr_w (n' := 96) hf (by decide)
  have hO := kj_ok (rm := ({ frames := 2, cells := 32, slots := jSl ftB ksK 112 - jSl ftB ksK 80, locals := 41 } : Room)) (ft := ftB) (Qs := Qs) (i := 16) (rk := 5) (post := fun _ _ => True) hc (by rw [lnK]; decide) (Nat.le_of_ble_eq_true rfl) (jSl_m (by decide)) (Or.inl rfl)
  refine kj_pqa hx hb hts hK had hs hown hin2 (n0 := 80) (i := 16) (v := 95) (by rw [lnK]; decide) (by unfold ri_; omega) (tkk kK_79 (by decide)) fB_8_18 rfl ff_X5_67 dX5_init_151 (fun M1 e1 => ?_)
  subst e1
  have hf := jFr_up (c := 79) (i := 18) (v := ((95 : Nat) : Int)) hf (by decide)
  refine j_aload_n hO dX5_init_154 rfl 0 rfl ?_
  refine j_sipush hO dX5_init_155 (by decide) ?_
  refine kj_ai hx hb hts hK had hs hty.2.1 (n0 := 80) (i := 16) (N := 400) (n := 96) (i1 := 17) rfl rfl kK_96 rfl (by decide) om_1617 dX5_init_158 (Nat.le_of_ble_eq_true rfl) (jSl_m (by decide)) hf ?_
  have hf := jFr_w (n' := 97) hf (by decide)
  have hO := kj_ok (rm := ({ frames := 2, cells := 32, slots := jSl ftB ksK 112 - jSl ftB ksK 80, locals := 41 } : Room)) (ft := ftB) (Qs := Qs) (i := 17) (rk := 5) (post := fun _ _ => True) hc (by rw [lnK]; decide) (Nat.le_of_ble_eq_true rfl) (jSl_m (by decide)) (Or.inl rfl)
  refine kj_pqa hx hb hts hK had hs hown hin2 (n0 := 80) (i := 17) (v := 96) (by rw [lnK]; decide) (by unfold ri_; omega) (tkk kK_79 (by decide)) fB_8_19 rfl ff_X5_70 dX5_init_160 (fun M1 e1 => ?_)
  subst e1
  have hf := jFr_up (c := 79) (i := 19) (v := ((96 : Nat) : Int)) hf (by decide)
  refine j_aload_n hO dX5_init_163 rfl 0 rfl ?_
  refine kj_new hx hb hts hK had hs hown (n0 := 80) (i := 17) (n := 97) (i1 := 18) rfl rfl kK_97 nc_X5_73 dX5_init_164 (Nat.le_of_ble_eq_true rfl) (jSl_m (by decide)) hf ?_
  have hf := jFr_w (n' := 98) hf (by decide)
  have hO := kj_ok (rm := ({ frames := 2, cells := 32, slots := jSl ftB ksK 112 - jSl ftB ksK 80, locals := 41 } : Room)) (ft := ftB) (Qs := Qs) (i := 18) (rk := 5) (post := fun _ _ => True) hc (by rw [lnK]; decide) (Nat.le_of_ble_eq_true rfl) (jSl_m (by decide)) (Or.inl rfl)
  refine j_dup hO dX5_init_167 rfl ?_
  refine j_aload_n hO dX5_init_168 rfl 1 rfl ?_
  refine kj_call hx hb hts hK had hs hml hown hgo hXc hXt (n0 := 80) (i := 18) (nn := 98) (i2 := 32) (c0 := 97) rfl rfl (c_X8_init_97 (l := l) (D := D) (cy := cy) (xs := xs) (L := L) had) rfl om_1739 ⟨rfl, rfl, Nat.le_of_ble_eq_true rfl, Nat.le_of_ble_eq_true rfl⟩ [.ref (ad 8)] ⟨om_1740, om_1741, om_422⟩ rfl hd_X8_init rfl (Nat.le_of_ble_eq_true rfl) dX5_init_169 (by rw [lnK]; decide) (Nat.le_of_ble_eq_true rfl) (jSl_m (by decide)) (P := fun M1 => M1 = T_X8_init_97 _) ⟨rfl, hf, rfl⟩ (fun M1 e1 => ?_)
  subst e1
  have hf := fr_X8_init_97 (n := 112) (by decide) (jFr_w (n' := 112) hf (by decide))
  have hO := kj_ok (rm := ({ frames := 2, cells := 32, slots := jSl ftB ksK 112 - jSl ftB ksK 80, locals := 41 } : Room)) (ft := ftB) (Qs := Qs) (i := 32) (rk := 5) (post := fun _ _ => True) hc (by rw [lnK]; decide) (Nat.le_of_ble_eq_true rfl) (jSl_m (by decide)) (Or.inl rfl)
  refine kj_pq hx hb hts hK had hs hown hin2 (n0 := 80) (i := 32) (v := 97) (by rw [lnK]; decide) (by unfold ri_; omega) (tkk kK_79 (by decide)) fB_8_20 rfl ff_X5_78 dX5_init_172 (fun M1 e1 => ?_)
  subst e1
  have hf := jFr_up (c := 79) (i := 20) (v := ((97 : Nat) : Int)) hf (by decide)
  exact hret _ _ _ dX5_init_175 hF
set_option maxHeartbeats 4000000 in
set_option maxRecDepth 100000 in
theorem c_X8_init_130 {l : Launch} {D : va_G} {cy : Nat → ClassId} {ad : Nat → Nat} {xs : Nat → Int} {L b0 : Nat} (had : ∀ k, k < ksK.length → ad k = b0 + k) : jKN l D vwCl (tyB cy) cy ad ftB ksK (XtB ad xs L) yX8_init (.code yX8_init cX8_init 2 none :: Om) ({ frames := 1, cells := 14, slots := jSl ftB ksK 145 - jSl ftB ksK 131, locals := 20 } : Room) b0 131 14 (W_X8_init_130 ad) := by
  refine jKN_of (y := yX8_init) (cc := cX8_init) (nL := 2) (rm := ({ frames := 1, cells := 14, slots := jSl ftB ksK 145 - jSl ftB ksK 131, locals := 20 } : Room)) (own := RX8) (tyB_ok cy) had (XtB_ok ad xs L) Om_good (by decide) rfl rfl ?_
  intro post av M hF
  obtain ⟨rfl, hf, hF⟩ := hF
  refine ⟨Nat.le_of_ble_eq_true rfl, fun p e s m below meth c Qs hc hin2 hret => ?_⟩
  obtain ⟨hx, hb, hml, hown, hts, hK, hty, -, hgo, hXc, hXt, hs⟩ := id hc
  have hO := kj_ok (rm := ({ frames := 1, cells := 14, slots := jSl ftB ksK 145 - jSl ftB ksK 131, locals := 20 } : Room)) (ft := ftB) (Qs := Qs) (i := 0) (rk := 5) (post := fun _ _ => True) hc (by rw [lnK]; decide) (Nat.le_of_ble_eq_true rfl) (jSl_m (by decide)) (Or.inl rfl)
  refine j_aload_n hO dX8_init_0 rfl 0 rfl ?_
  refine kj_obj hx hb hml hts hown ⟨om_1723, om_1612, om_1613⟩ dX8_init_1 (Nat.le_of_ble_eq_true rfl) (Nat.le_of_ble_eq_true rfl) (Nat.le_of_ble_eq_true rfl) ?_
  refine j_aload_n hO dX8_init_4 rfl 0 rfl ?_
  refine j_aload_n hO dX8_init_5 rfl 1 rfl ?_
  refine kj_pq hx hb hts hK had hs hown hin2 (n0 := 131) (i := 0) (v := 8) (by rw [lnK]; decide) (by unfold ri_; omega) (tkk kK_130 (by decide)) fB_11_0 rfl ff_X8_9 dX8_init_6 (fun M1 e1 => ?_)
  subst e1
  have hf := jFr_up (c := 130) (i := 0) (v := ((8 : Nat) : Int)) hf (by decide)
  refine j_aload_n hO dX8_init_9 rfl 0 rfl ?_
  refine j_sipush hO dX8_init_10 (by decide) ?_
  refine kj_ai hx hb hts hK had hs hty.2.1 (n0 := 131) (i := 0) (N := 401) (n := 131) (i1 := 1) rfl rfl kK_131 rfl (by decide) om_1617 dX8_init_13 (Nat.le_of_ble_eq_true rfl) (jSl_m (by decide)) hf ?_
  have hf := jFr_w (n' := 132) hf (by decide)
  have hO := kj_ok (rm := ({ frames := 1, cells := 14, slots := jSl ftB ksK 145 - jSl ftB ksK 131, locals := 20 } : Room)) (ft := ftB) (Qs := Qs) (i := 1) (rk := 5) (post := fun _ _ => True) hc (by rw [lnK]; decide) (Nat.le_of_ble_eq_true rfl) (jSl_m (by decide)) (Or.inl rfl)
  refine kj_pqa hx hb hts hK had hs hown hin2 (n0 := 131) (i := 1) (v := 131) (by rw [lnK]; decide) (by unfold ri_; omega) (tkk kK_130 (by decide)) fB_11_2 rfl ff_X8_17 dX8_init_15 (fun M1 e1 => ?_)
  subst e1
  have hf := jFr_up (c := 130) (i := 2) (v := ((131 : Nat) : Int)) hf (by decide)
  refine j_aload_n hO dX8_init_18 rfl 0 rfl ?_
  refine j_sipush hO dX8_init_19 (by decide) ?_
  refine kj_ai hx hb hts hK had hs hty.2.1 (n0 := 131) (i := 1) (N := 4108) (n := 132) (i1 := 2) rfl rfl kK_132 rfl (by decide) om_1617 dX8_init_22 (Nat.le_of_ble_eq_true rfl) (jSl_m (by decide)) hf ?_
  have hf := jFr_w (n' := 133) hf (by decide)
  have hO := kj_ok (rm := ({ frames := 1, cells := 14, slots := jSl ftB ksK 145 - jSl ftB ksK 131, locals := 20 } : Room)) (ft := ftB) (Qs := Qs) (i := 2) (rk := 5) (post := fun _ _ => True) hc (by rw [lnK]; decide) (Nat.le_of_ble_eq_true rfl) (jSl_m (by decide)) (Or.inl rfl)
  refine kj_pqa hx hb hts hK had hs hown hin2 (n0 := 131) (i := 2) (v := 132) (by rw [lnK]; decide) (by unfold ri_; omega) (tkk kK_130 (by decide)) fB_11_3 rfl ff_X8_21 dX8_init_24 (fun M1 e1 => ?_)
  subst e1
  have hf := jFr_up (c := 130) (i := 3) (v := ((132 : Nat) : Int)) hf (by decide)
  refine j_aload_n hO dX8_init_27 rfl 0 rfl ?_
  refine j_sipush hO dX8_init_28 (by decide) ?_
  refine kj_ai hx hb hts hK had hs hty.2.1 (n0 := 131) (i := 2) (N := 4108) (n := 133) (i1 := 3) rfl rfl kK_133 rfl (by decide) om_1617 dX8_init_31 (Nat.le_of_ble_eq_true rfl) (jSl_m (by decide)) hf ?_
  have hf := jFr_w (n' := 134) hf (by decide)
  have hO := kj_ok (rm := ({ frames := 1, cells := 14, slots := jSl ftB ksK 145 - jSl ftB ksK 131, locals := 20 } : Room)) (ft := ftB) (Qs := Qs) (i := 3) (rk := 5) (post := fun _ _ => True) hc (by rw [lnK]; decide) (Nat.le_of_ble_eq_true rfl) (jSl_m (by decide)) (Or.inl rfl)
  refine kj_pqa hx hb hts hK had hs hown hin2 (n0 := 131) (i := 3) (v := 133) (by rw [lnK]; decide) (by unfold ri_; omega) (tkk kK_130 (by decide)) fB_11_4 rfl ff_X8_24 dX8_init_33 (fun M1 e1 => ?_)
  subst e1
  have hf := jFr_up (c := 130) (i := 4) (v := ((133 : Nat) : Int)) hf (by decide)
  refine j_aload_n hO dX8_init_36 rfl 0 rfl ?_
  refine j_sipush hO dX8_init_37 (by decide) ?_
  refine kj_ai hx hb hts hK had hs hty.2.1 (n0 := 131) (i := 3) (N := 400) (n := 134) (i1 := 4) rfl rfl kK_134 rfl (by decide) om_1617 dX8_init_40 (Nat.le_of_ble_eq_true rfl) (jSl_m (by decide)) hf ?_
  have hf := jFr_w (n' := 135) hf (by decide)
  have hO := kj_ok (rm := ({ frames := 1, cells := 14, slots := jSl ftB ksK 145 - jSl ftB ksK 131, locals := 20 } : Room)) (ft := ftB) (Qs := Qs) (i := 4) (rk := 5) (post := fun _ _ => True) hc (by rw [lnK]; decide) (Nat.le_of_ble_eq_true rfl) (jSl_m (by decide)) (Or.inl rfl)
  refine kj_pqa hx hb hts hK had hs hown hin2 (n0 := 131) (i := 4) (v := 134) (by rw [lnK]; decide) (by unfold ri_; omega) (tkk kK_130 (by decide)) fB_11_5 rfl ff_X8_27 dX8_init_42 (fun M1 e1 => ?_)
  subst e1
  have hf := jFr_up (c := 130) (i := 5) (v := ((134 : Nat) : Int)) hf (by decide)
  refine j_aload_n hO dX8_init_45 rfl 0 rfl ?_
  refine j_sipush hO dX8_init_46 (by decide) ?_
  refine kj_ai hx hb hts hK had hs hty.2.1 (n0 := 131) (i := 4) (N := 400) (n := 135) (i1 := 5) rfl rfl kK_135 rfl (by decide) om_1617 dX8_init_49 (Nat.le_of_ble_eq_true rfl) (jSl_m (by decide)) hf ?_
  have hf := jFr_w (n' := 136) hf (by decide)
  have hO := kj_ok (rm := ({ frames := 1, cells := 14, slots := jSl ftB ksK 145 - jSl ftB ksK 131, locals := 20 } : Room)) (ft := ftB) (Qs := Qs) (i := 5) (rk := 5) (post := fun _ _ => True) hc (by rw [lnK]; decide) (Nat.le_of_ble_eq_true rfl) (jSl_m (by decide)) (Or.inl rfl)
  refine kj_pqa hx hb hts hK had hs hown hin2 (n0 := 131) (i := 5) (v := 135) (by rw [lnK]; decide) (by unfold ri_; omega) (tkk kK_130 (by decide)) fB_11_6 rfl ff_X8_30 dX8_init_51 (fun M1 e1 => ?_)
  subst e1
  have hf := jFr_up (c := 130) (i := 6) (v := ((135 : Nat) : Int)) hf (by decide)
  refine j_aload_n hO dX8_init_54 rfl 0 rfl ?_
  refine j_sipush hO dX8_init_55 (by decide) ?_
  refine kj_ai hx hb hts hK had hs hty.2.1 (n0 := 131) (i := 5) (N := 400) (n := 136) (i1 := 6) rfl rfl kK_136 rfl (by decide) om_1617 dX8_init_58 (Nat.le_of_ble_eq_true rfl) (jSl_m (by decide)) hf ?_
  have hf := jFr_w (n' := 137) hf (by decide)
  have hO := kj_ok (rm := ({ frames := 1, cells := 14, slots := jSl ftB ksK 145 - jSl ftB ksK 131, locals := 20 } : Room)) (ft := ftB) (Qs := Qs) (i := 6) (rk := 5) (post := fun _ _ => True) hc (by rw [lnK]; decide) (Nat.le_of_ble_eq_true rfl) (jSl_m (by decide)) (Or.inl rfl)
  refine kj_pqa hx hb hts hK had hs hown hin2 (n0 := 131) (i := 6) (v := 136) (by rw [lnK]; decide) (by unfold ri_; omega) (tkk kK_130 (by decide)) fB_11_7 rfl ff_X8_33 dX8_init_60 (fun M1 e1 => ?_)
  subst e1
  have hf := jFr_up (c := 130) (i := 7) (v := ((136 : Nat) : Int)) hf (by decide)
  refine j_aload_n hO dX8_init_63 rfl 0 rfl ?_
  refine j_sipush hO dX8_init_64 (by decide) ?_
  refine kj_ai hx hb hts hK had hs hty.2.1 (n0 := 131) (i := 6) (N := 400) (n := 137) (i1 := 7) rfl rfl kK_137 rfl (by decide) om_1617 dX8_init_67 (Nat.le_of_ble_eq_true rfl) (jSl_m (by decide)) hf ?_
  have hf := jFr_w (n' := 138) hf (by decide)
  have hO := kj_ok (rm := ({ frames := 1, cells := 14, slots := jSl ftB ksK 145 - jSl ftB ksK 131, locals := 20 } : Room)) (ft := ftB) (Qs := Qs) (i := 7) (rk := 5) (post := fun _ _ => True) hc (by rw [lnK]; decide) (Nat.le_of_ble_eq_true rfl) (jSl_m (by decide)) (Or.inl rfl)
  refine kj_pqa hx hb hts hK had hs hown hin2 (n0 := 131) (i := 7) (v := 137) (by rw [lnK]; decide) (by unfold ri_; omega) (tkk kK_130 (by decide)) fB_11_8 rfl ff_X8_36 dX8_init_69 (fun M1 e1 => ?_)
  subst e1
  have hf := jFr_up (c := 130) (i := 8) (v := ((137 : Nat) : Int)) hf (by decide)
  refine j_aload_n hO dX8_init_72 rfl 0 rfl ?_
  refine j_sipush hO dX8_init_73 (by decide) ?_
  refine kj_ai hx hb hts hK had hs hty.2.1 (n0 := 131) (i := 7) (N := 400) (n := 138) (i1 := 8) rfl rfl kK_138 rfl (by decide) om_1617 dX8_init_76 (Nat.le_of_ble_eq_true rfl) (jSl_m (by decide)) hf ?_
  have hf := jFr_w (n' := 139) hf (by decide)
  have hO := kj_ok (rm := ({ frames := 1, cells := 14, slots := jSl ftB ksK 145 - jSl ftB ksK 131, locals := 20 } : Room)) (ft := ftB) (Qs := Qs) (i := 8) (rk := 5) (post := fun _ _ => True) hc (by rw [lnK]; decide) (Nat.le_of_ble_eq_true rfl) (jSl_m (by decide)) (Or.inl rfl)
  refine kj_pqa hx hb hts hK had hs hown hin2 (n0 := 131) (i := 8) (v := 138) (by rw [lnK]; decide) (by unfold ri_; omega) (tkk kK_130 (by decide)) fB_11_10 rfl ff_X8_39 dX8_init_78 (fun M1 e1 => ?_)
  subst e1
  have hf := jFr_up (c := 130) (i := 10) (v := ((138 : Nat) : Int)) hf (by decide)
  refine j_aload_n hO dX8_init_81 rfl 0 rfl ?_
  refine j_sipush hO dX8_init_82 (by decide) ?_
  refine kj_ai hx hb hts hK had hs hty.2.1 (n0 := 131) (i := 8) (N := 400) (n := 139) (i1 := 9) rfl rfl kK_139 rfl (by decide) om_1617 dX8_init_85 (Nat.le_of_ble_eq_true rfl) (jSl_m (by decide)) hf ?_
  have hf := jFr_w (n' := 140) hf (by decide)
  have hO := kj_ok (rm := ({ frames := 1, cells := 14, slots := jSl ftB ksK 145 - jSl ftB ksK 131, locals := 20 } : Room)) (ft := ftB) (Qs := Qs) (i := 9) (rk := 5) (post := fun _ _ => True) hc (by rw [lnK]; decide) (Nat.le_of_ble_eq_true rfl) (jSl_m (by decide)) (Or.inl rfl)
  refine kj_pqa hx hb hts hK had hs hown hin2 (n0 := 131) (i := 9) (v := 139) (by rw [lnK]; decide) (by unfold ri_; omega) (tkk kK_130 (by decide)) fB_11_12 rfl ff_X8_42 dX8_init_87 (fun M1 e1 => ?_)
  subst e1
  have hf := jFr_up (c := 130) (i := 12) (v := ((139 : Nat) : Int)) hf (by decide)
  refine j_aload_n hO dX8_init_90 rfl 0 rfl ?_
  refine j_sipush hO dX8_init_91 (by decide) ?_
  refine kj_ai hx hb hts hK had hs hty.2.1 (n0 := 131) (i := 9) (N := 400) (n := 140) (i1 := 10) rfl rfl kK_140 rfl (by decide) om_1617 dX8_init_94 (Nat.le_of_ble_eq_true rfl) (jSl_m (by decide)) hf ?_
  have hf := jFr_w (n' := 141) hf (by decide)
  have hO := kj_ok (rm := ({ frames := 1, cells := 14, slots := jSl ftB ksK 145 - jSl ftB ksK 131, locals := 20 } : Room)) (ft := ftB) (Qs := Qs) (i := 10) (rk := 5) (post := fun _ _ => True) hc (by rw [lnK]; decide) (Nat.le_of_ble_eq_true rfl) (jSl_m (by decide)) (Or.inl rfl)
  refine kj_pqa hx hb hts hK had hs hown hin2 (n0 := 131) (i := 10) (v := 140) (by rw [lnK]; decide) (by unfold ri_; omega) (tkk kK_130 (by decide)) fB_11_13 rfl ff_X8_45 dX8_init_96 (fun M1 e1 => ?_)
  subst e1
  have hf := jFr_up (c := 130) (i := 13) (v := ((140 : Nat) : Int)) hf (by decide)
  refine j_aload_n hO dX8_init_99 rfl 0 rfl ?_
  refine j_sipush hO dX8_init_100 (by decide) ?_
  refine kj_ai hx hb hts hK had hs hty.2.1 (n0 := 131) (i := 10) (N := 400) (n := 141) (i1 := 11) rfl rfl kK_141 rfl (by decide) om_1617 dX8_init_103 (Nat.le_of_ble_eq_true rfl) (jSl_m (by decide)) hf ?_
  have hf := jFr_w (n' := 142) hf (by decide)
  have hO := kj_ok (rm := ({ frames := 1, cells := 14, slots := jSl ftB ksK 145 - jSl ftB ksK 131, locals := 20 } : Room)) (ft := ftB) (Qs := Qs) (i := 11) (rk := 5) (post := fun _ _ => True) hc (by rw [lnK]; decide) (Nat.le_of_ble_eq_true rfl) (jSl_m (by decide)) (Or.inl rfl)
  refine kj_pqa hx hb hts hK had hs hown hin2 (n0 := 131) (i := 11) (v := 141) (by rw [lnK]; decide) (by unfold ri_; omega) (tkk kK_130 (by decide)) fB_11_14 rfl ff_X8_48 dX8_init_105 (fun M1 e1 => ?_)
  subst e1
  have hf := jFr_up (c := 130) (i := 14) (v := ((141 : Nat) : Int)) hf (by decide)
  refine j_aload_n hO dX8_init_108 rfl 0 rfl ?_
  refine j_sipush hO dX8_init_109 (by decide) ?_
  refine kj_ai hx hb hts hK had hs hty.2.1 (n0 := 131) (i := 11) (N := 400) (n := 142) (i1 := 12) rfl rfl kK_142 rfl (by decide) om_1617 dX8_init_112 (Nat.le_of_ble_eq_true rfl) (jSl_m (by decide)) hf ?_
  have hf := jFr_w (n' := 143) hf (by decide)
  have hO := kj_ok (rm := ({ frames := 1, cells := 14, slots := jSl ftB ksK 145 - jSl ftB ksK 131, locals := 20 } : Room)) (ft := ftB) (Qs := Qs) (i := 12) (rk := 5) (post := fun _ _ => True) hc (by rw [lnK]; decide) (Nat.le_of_ble_eq_true rfl) (jSl_m (by decide)) (Or.inl rfl)
  refine kj_pqa hx hb hts hK had hs hown hin2 (n0 := 131) (i := 12) (v := 142) (by rw [lnK]; decide) (by unfold ri_; omega) (tkk kK_130 (by decide)) fB_11_15 rfl ff_X8_51 dX8_init_114 (fun M1 e1 => ?_)
  subst e1
  have hf := jFr_up (c := 130) (i := 15) (v := ((142 : Nat) : Int)) hf (by decide)
  refine j_aload_n hO dX8_init_117 rfl 0 rfl ?_
  refine j_sipush hO dX8_init_118 (by decide) ?_
  refine kj_ai hx hb hts hK had hs hty.2.1 (n0 := 131) (i := 12) (N := 400) (n := 143) (i1 := 13) rfl rfl kK_143 rfl (by decide) om_1617 dX8_init_121 (Nat.le_of_ble_eq_true rfl) (jSl_m (by decide)) hf ?_
  have hf := jFr_w (n' := 144) hf (by decide)
  have hO := kj_ok (rm := ({ frames := 1, cells := 14, slots := jSl ftB ksK 145 - jSl ftB ksK 131, locals := 20 } : Room)) (ft := ftB) (Qs := Qs) (i := 13) (rk := 5) (post := fun _ _ => True) hc (by rw [lnK]; decide) (Nat.le_of_ble_eq_true rfl) (jSl_m (by decide)) (Or.inl rfl)
  refine kj_pqa hx hb hts hK had hs hown hin2 (n0 := 131) (i := 13) (v := 143) (by rw [lnK]; decide) (by unfold ri_; omega) (tkk kK_130 (by decide)) fB_11_16 rfl ff_X8_54 dX8_init_123 (fun M1 e1 => ?_)
  subst e1
  have hf := jFr_up (c := 130) (i := 16) (v := ((143 : Nat) : Int)) hf (by decide)
  refine j_aload_n hO dX8_init_126 rfl 0 rfl ?_
  refine j_sipush hO dX8_init_127 (by decide) ?_
  refine kj_ai hx hb hts hK had hs hty.2.1 (n0 := 131) (i := 13) (N := 512) (n := 144) (i1 := 14) rfl rfl kK_144 rfl (by decide) om_1617 dX8_init_130 (Nat.le_of_ble_eq_true rfl) (jSl_m (by decide)) hf ?_
  have hf := jFr_w (n' := 145) hf (by decide)
  have hO := kj_ok (rm := ({ frames := 1, cells := 14, slots := jSl ftB ksK 145 - jSl ftB ksK 131, locals := 20 } : Room)) (ft := ftB) (Qs := Qs) (i := 14) (rk := 5) (post := fun _ _ => True) hc (by rw [lnK]; decide) (Nat.le_of_ble_eq_true rfl) (jSl_m (by decide)) (Or.inl rfl)
  refine kj_pqa hx hb hts hK had hs hown hin2 (n0 := 131) (i := 14) (v := 144) (by rw [lnK]; decide) (by unfold ri_; omega) (tkk kK_130 (by decide)) fB_11_17 rfl ff_X8_57 dX8_init_132 (fun M1 e1 => ?_)
  subst e1
  have hf := jFr_up (c := 130) (i := 17) (v := ((144 : Nat) : Int)) hf (by decide)
  exact hret _ _ _ dX8_init_135 hF
set_option maxHeartbeats 4000000 in
set_option maxRecDepth 100000 in
theorem c_X5_init_112 {l : Launch} {D : va_G} {cy : Nat → ClassId} {ad : Nat → Nat} {xs : Nat → Int} {L b0 : Nat} (had : ∀ k, k < ksK.length → ad k = b0 + k) : jKN l D vwCl (tyB cy) cy ad ftB ksK (XtB ad xs L) yX5_init (.code yX5_init cX5_init 2 none :: Om) ({ frames := 2, cells := 32, slots := jSl ftB ksK 145 - jSl ftB ksK 113, locals := 41 } : Room) b0 113 32 (W_X5_init_112 ad) := by
  refine jKN_of (y := yX5_init) (cc := cX5_init) (nL := 2) (rm := ({ frames := 2, cells := 32, slots := jSl ftB ksK 145 - jSl ftB ksK 113, locals := 41 } : Room)) (own := RX5) (tyB_ok cy) had (XtB_ok ad xs L) Om_good (by decide) rfl rfl ?_
  intro post av M hF
  obtain ⟨rfl, hf, hF⟩ := hF
  refine ⟨Nat.le_of_ble_eq_true rfl, fun p e s m below meth c Qs hc hin2 hret => ?_⟩
  obtain ⟨hx, hb, hml, hown, hts, hK, hty, -, hgo, hXc, hXt, hs⟩ := id hc
  have hO := kj_ok (rm := ({ frames := 2, cells := 32, slots := jSl ftB ksK 145 - jSl ftB ksK 113, locals := 41 } : Room)) (ft := ftB) (Qs := Qs) (i := 0) (rk := 5) (post := fun _ _ => True) hc (by rw [lnK]; decide) (Nat.le_of_ble_eq_true rfl) (jSl_m (by decide)) (Or.inl rfl)
  refine j_aload_n hO dX5_init_0 rfl 0 rfl ?_
  refine kj_obj hx hb hml hts hown ⟨om_1702, om_1612, om_1613⟩ dX5_init_1 (Nat.le_of_ble_eq_true rfl) (Nat.le_of_ble_eq_true rfl) (Nat.le_of_ble_eq_true rfl) ?_
  refine j_aload_n hO dX5_init_4 rfl 0 rfl ?_
  refine j_sipush hO dX5_init_5 (by decide) ?_
  refine kj_ai hx hb hts hK had hs hty.2.1 (n0 := 113) (i := 0) (N := 400) (n := 113) (i1 := 1) rfl rfl kK_113 rfl (by decide) om_1617 dX5_init_8 (Nat.le_of_ble_eq_true rfl) (jSl_m (by decide)) hf ?_
  have hf := jFr_w (n' := 114) hf (by decide)
  have hO := kj_ok (rm := ({ frames := 2, cells := 32, slots := jSl ftB ksK 145 - jSl ftB ksK 113, locals := 41 } : Room)) (ft := ftB) (Qs := Qs) (i := 1) (rk := 5) (post := fun _ _ => True) hc (by rw [lnK]; decide) (Nat.le_of_ble_eq_true rfl) (jSl_m (by decide)) (Or.inl rfl)
  refine kj_pqa hx hb hts hK had hs hown hin2 (n0 := 113) (i := 1) (v := 113) (by rw [lnK]; decide) (by unfold ri_; omega) (tkk kK_112 (by decide)) fB_8_1 rfl ff_X5_11 dX5_init_10 (fun M1 e1 => ?_)
  subst e1
  have hf := jFr_up (c := 112) (i := 1) (v := ((113 : Nat) : Int)) hf (by decide)
  refine j_aload_n hO dX5_init_13 rfl 0 rfl ?_
  refine j_sipush hO dX5_init_14 (by decide) ?_
  refine kj_ai hx hb hts hK had hs hty.2.1 (n0 := 113) (i := 1) (N := 400) (n := 114) (i1 := 2) rfl rfl kK_114 rfl (by decide) om_1617 dX5_init_17 (Nat.le_of_ble_eq_true rfl) (jSl_m (by decide)) hf ?_
  have hf := jFr_w (n' := 115) hf (by decide)
  have hO := kj_ok (rm := ({ frames := 2, cells := 32, slots := jSl ftB ksK 145 - jSl ftB ksK 113, locals := 41 } : Room)) (ft := ftB) (Qs := Qs) (i := 2) (rk := 5) (post := fun _ _ => True) hc (by rw [lnK]; decide) (Nat.le_of_ble_eq_true rfl) (jSl_m (by decide)) (Or.inl rfl)
  refine kj_pqa hx hb hts hK had hs hown hin2 (n0 := 113) (i := 2) (v := 114) (by rw [lnK]; decide) (by unfold ri_; omega) (tkk kK_112 (by decide)) fB_8_2 rfl ff_X5_15 dX5_init_19 (fun M1 e1 => ?_)
  subst e1
  have hf := jFr_up (c := 112) (i := 2) (v := ((114 : Nat) : Int)) hf (by decide)
  refine j_aload_n hO dX5_init_22 rfl 0 rfl ?_
  refine j_sipush hO dX5_init_23 (by decide) ?_
  refine kj_ai hx hb hts hK had hs hty.2.1 (n0 := 113) (i := 2) (N := 400) (n := 115) (i1 := 3) rfl rfl kK_115 rfl (by decide) om_1617 dX5_init_26 (Nat.le_of_ble_eq_true rfl) (jSl_m (by decide)) hf ?_
  have hf := jFr_w (n' := 116) hf (by decide)
  have hO := kj_ok (rm := ({ frames := 2, cells := 32, slots := jSl ftB ksK 145 - jSl ftB ksK 113, locals := 41 } : Room)) (ft := ftB) (Qs := Qs) (i := 3) (rk := 5) (post := fun _ _ => True) hc (by rw [lnK]; decide) (Nat.le_of_ble_eq_true rfl) (jSl_m (by decide)) (Or.inl rfl)
  refine kj_pqa hx hb hts hK had hs hown hin2 (n0 := 113) (i := 3) (v := 115) (by rw [lnK]; decide) (by unfold ri_; omega) (tkk kK_112 (by decide)) fB_8_3 rfl ff_X5_18 dX5_init_28 (fun M1 e1 => ?_)
  subst e1
  have hf := jFr_up (c := 112) (i := 3) (v := ((115 : Nat) : Int)) hf (by decide)
  refine j_aload_n hO dX5_init_31 rfl 0 rfl ?_
  refine j_sipush hO dX5_init_32 (by decide) ?_
  refine kj_ai hx hb hts hK had hs hty.2.1 (n0 := 113) (i := 3) (N := 401) (n := 116) (i1 := 4) rfl rfl kK_116 rfl (by decide) om_1617 dX5_init_35 (Nat.le_of_ble_eq_true rfl) (jSl_m (by decide)) hf ?_
  have hf := jFr_w (n' := 117) hf (by decide)
  have hO := kj_ok (rm := ({ frames := 2, cells := 32, slots := jSl ftB ksK 145 - jSl ftB ksK 113, locals := 41 } : Room)) (ft := ftB) (Qs := Qs) (i := 4) (rk := 5) (post := fun _ _ => True) hc (by rw [lnK]; decide) (Nat.le_of_ble_eq_true rfl) (jSl_m (by decide)) (Or.inl rfl)
  refine kj_pqa hx hb hts hK had hs hown hin2 (n0 := 113) (i := 4) (v := 116) (by rw [lnK]; decide) (by unfold ri_; omega) (tkk kK_112 (by decide)) fB_8_4 rfl ff_X5_21 dX5_init_37 (fun M1 e1 => ?_)
  subst e1
  have hf := jFr_up (c := 112) (i := 4) (v := ((116 : Nat) : Int)) hf (by decide)
  refine j_aload_n hO dX5_init_40 rfl 0 rfl ?_
  refine j_sipush hO dX5_init_41 (by decide) ?_
  refine kj_ai hx hb hts hK had hs hty.2.1 (n0 := 113) (i := 4) (N := 400) (n := 117) (i1 := 5) rfl rfl kK_117 rfl (by decide) om_1617 dX5_init_44 (Nat.le_of_ble_eq_true rfl) (jSl_m (by decide)) hf ?_
  have hf := jFr_w (n' := 118) hf (by decide)
  have hO := kj_ok (rm := ({ frames := 2, cells := 32, slots := jSl ftB ksK 145 - jSl ftB ksK 113, locals := 41 } : Room)) (ft := ftB) (Qs := Qs) (i := 5) (rk := 5) (post := fun _ _ => True) hc (by rw [lnK]; decide) (Nat.le_of_ble_eq_true rfl) (jSl_m (by decide)) (Or.inl rfl)
  refine kj_pqa hx hb hts hK had hs hown hin2 (n0 := 113) (i := 5) (v := 117) (by rw [lnK]; decide) (by unfold ri_; omega) (tkk kK_112 (by decide)) fB_8_5 rfl ff_X5_24 dX5_init_46 (fun M1 e1 => ?_)
  subst e1
  have hf := jFr_up (c := 112) (i := 5) (v := ((117 : Nat) : Int)) hf (by decide)
  refine j_aload_n hO dX5_init_49 rfl 0 rfl ?_
  refine j_sipush hO dX5_init_50 (by decide) ?_
  refine kj_ai hx hb hts hK had hs hty.2.1 (n0 := 113) (i := 5) (N := 400) (n := 118) (i1 := 6) rfl rfl kK_118 rfl (by decide) om_1617 dX5_init_53 (Nat.le_of_ble_eq_true rfl) (jSl_m (by decide)) hf ?_
  have hf := jFr_w (n' := 119) hf (by decide)
  have hO := kj_ok (rm := ({ frames := 2, cells := 32, slots := jSl ftB ksK 145 - jSl ftB ksK 113, locals := 41 } : Room)) (ft := ftB) (Qs := Qs) (i := 6) (rk := 5) (post := fun _ _ => True) hc (by rw [lnK]; decide) (Nat.le_of_ble_eq_true rfl) (jSl_m (by decide)) (Or.inl rfl)
  refine kj_pqa hx hb hts hK had hs hown hin2 (n0 := 113) (i := 6) (v := 118) (by rw [lnK]; decide) (by unfold ri_; omega) (tkk kK_112 (by decide)) fB_8_6 rfl ff_X5_27 dX5_init_55 (fun M1 e1 => ?_)
  subst e1
  have hf := jFr_up (c := 112) (i := 6) (v := ((118 : Nat) : Int)) hf (by decide)
  refine j_aload_n hO dX5_init_58 rfl 0 rfl ?_
  refine j_sipush hO dX5_init_59 (by decide) ?_
  refine kj_ai hx hb hts hK had hs hty.2.1 (n0 := 113) (i := 6) (N := 400) (n := 119) (i1 := 7) rfl rfl kK_119 rfl (by decide) om_1617 dX5_init_62 (Nat.le_of_ble_eq_true rfl) (jSl_m (by decide)) hf ?_
  have hf := jFr_w (n' := 120) hf (by decide)
  have hO := kj_ok (rm := ({ frames := 2, cells := 32, slots := jSl ftB ksK 145 - jSl ftB ksK 113, locals := 41 } : Room)) (ft := ftB) (Qs := Qs) (i := 7) (rk := 5) (post := fun _ _ => True) hc (by rw [lnK]; decide) (Nat.le_of_ble_eq_true rfl) (jSl_m (by decide)) (Or.inl rfl)
  refine kj_pqa hx hb hts hK had hs hown hin2 (n0 := 113) (i := 7) (v := 119) (by rw [lnK]; decide) (by unfold ri_; omega) (tkk kK_112 (by decide)) fB_8_7 rfl ff_X5_30 dX5_init_64 (fun M1 e1 => ?_)
  subst e1
  have hf := jFr_up (c := 112) (i := 7) (v := ((119 : Nat) : Int)) hf (by decide)
  refine j_aload_n hO dX5_init_67 rfl 0 rfl ?_
  refine j_sipush hO dX5_init_68 (by decide) ?_
  refine kj_ai hx hb hts hK had hs hty.2.1 (n0 := 113) (i := 7) (N := 400) (n := 120) (i1 := 8) rfl rfl kK_120 rfl (by decide) om_1617 dX5_init_71 (Nat.le_of_ble_eq_true rfl) (jSl_m (by decide)) hf ?_
  have hf := jFr_w (n' := 121) hf (by decide)
  have hO := kj_ok (rm := ({ frames := 2, cells := 32, slots := jSl ftB ksK 145 - jSl ftB ksK 113, locals := 41 } : Room)) (ft := ftB) (Qs := Qs) (i := 8) (rk := 5) (post := fun _ _ => True) hc (by rw [lnK]; decide) (Nat.le_of_ble_eq_true rfl) (jSl_m (by decide)) (Or.inl rfl)
  refine kj_pqa hx hb hts hK had hs hown hin2 (n0 := 113) (i := 8) (v := 120) (by rw [lnK]; decide) (by unfold ri_; omega) (tkk kK_112 (by decide)) fB_8_8 rfl ff_X5_35 dX5_init_73 (fun M1 e1 => ?_)
  subst e1
  have hf := jFr_up (c := 112) (i := 8) (v := ((120 : Nat) : Int)) hf (by decide)
  refine j_aload_n hO dX5_init_76 rfl 0 rfl ?_
  refine j_gq (v := 120) hO (tkk kK_112 (by decide)) fB_8_8 rfl fl_X5_35 dX5_init_77 (by rfl) ?_
  refine j_iconst hO dX5_init_80 ?_
  refine j_callSv hO (c_J7_fill_53178_B (l := l) (D := D) (cy := cy) (ad := ad) (xs := xs) (L := L) (ksB := ksK.take (113 + 8)) (by rw [tkl (by rw [lnK]; decide)]; exact jIn_b (fun k hk => had k (by rw [lnK]; omega)))) rfl om_497 ⟨rfl, rfl, Nat.le_of_ble_eq_true rfl, Nat.le_of_ble_eq_true rfl⟩ [.ref (ad 120), .int (Ii (-1))] mv_X5_38 hd_J7_fill_53178 rfl (Nat.le_of_ble_eq_true rfl) dX5_init_81 (P := fun _ M1 => M1 = filled _ 120 0 (400 : Nat) (-1)) ⟨120, 400, (-1), rfl, (tkk kK_120 (by decide)), by decide, rk_m1, p_fillI (by decide) rfl⟩ (fun M1 e1 => ?_)
  subst e1
  have hf := jFr_fl (c := 120) (f := 0) (t := (400 : Nat)) (v := (-1)) hf (by decide)
  refine j_aload_n hO dX5_init_84 rfl 0 rfl ?_
  refine j_sipush hO dX5_init_85 (by decide) ?_
  refine kj_al hx hb hts hK had hs hty.2.2.1 (n0 := 113) (i := 8) (N := 4000) (n := 121) (i1 := 9) rfl rfl kK_121 rfl (by decide) om_1622 dX5_init_88 (Nat.le_of_ble_eq_true rfl) (jSl_m (by decide)) hf ?_
  have hf := jFr_w (n' := 122) hf (by decide)
  have hO := kj_ok (rm := ({ frames := 2, cells := 32, slots := jSl ftB ksK 145 - jSl ftB ksK 113, locals := 41 } : Room)) (ft := ftB) (Qs := Qs) (i := 9) (rk := 5) (post := fun _ _ => True) hc (by rw [lnK]; decide) (Nat.le_of_ble_eq_true rfl) (jSl_m (by decide)) (Or.inl rfl)
  refine kj_pqa hx hb hts hK had hs hown hin2 (n0 := 113) (i := 9) (v := 121) (by rw [lnK]; decide) (by unfold ri_; omega) (tkk kK_112 (by decide)) fB_8_9 rfl ff_X5_44 dX5_init_90 (fun M1 e1 => ?_)
  subst e1
  have hf := jFr_up (c := 112) (i := 9) (v := ((121 : Nat) : Int)) hf (by decide)
  refine j_aload_n hO dX5_init_93 rfl 0 rfl ?_
  refine j_sipush hO dX5_init_94 (by decide) ?_
  refine kj_az hx hb hts hK had hs hty.2.2.2 (n0 := 113) (i := 9) (N := 4000) (n := 122) (i1 := 10) rfl rfl kK_122 rfl (by decide) om_1646 dX5_init_97 (Nat.le_of_ble_eq_true rfl) (jSl_m (by decide)) hf ?_
  have hf := jFr_w (n' := 123) hf (by decide)
  have hO := kj_ok (rm := ({ frames := 2, cells := 32, slots := jSl ftB ksK 145 - jSl ftB ksK 113, locals := 41 } : Room)) (ft := ftB) (Qs := Qs) (i := 10) (rk := 5) (post := fun _ _ => True) hc (by rw [lnK]; decide) (Nat.le_of_ble_eq_true rfl) (jSl_m (by decide)) (Or.inl rfl)
  refine kj_pqa hx hb hts hK had hs hown hin2 (n0 := 113) (i := 10) (v := 122) (by rw [lnK]; decide) (by unfold ri_; omega) (tkk kK_112 (by decide)) fB_8_10 rfl ff_X5_48 dX5_init_99 (fun M1 e1 => ?_)
  subst e1
  have hf := jFr_up (c := 112) (i := 10) (v := ((122 : Nat) : Int)) hf (by decide)
  refine j_aload_n hO dX5_init_102 rfl 0 rfl ?_
  refine j_bipush hO dX5_init_103 (by decide) ?_
  refine kj_ai hx hb hts hK had hs hty.2.1 (n0 := 113) (i := 10) (N := 108) (n := 123) (i1 := 11) rfl rfl kK_123 rfl (by decide) om_1617 dX5_init_105 (Nat.le_of_ble_eq_true rfl) (jSl_m (by decide)) hf ?_
  have hf := jFr_w (n' := 124) hf (by decide)
  have hO := kj_ok (rm := ({ frames := 2, cells := 32, slots := jSl ftB ksK 145 - jSl ftB ksK 113, locals := 41 } : Room)) (ft := ftB) (Qs := Qs) (i := 11) (rk := 5) (post := fun _ _ => True) hc (by rw [lnK]; decide) (Nat.le_of_ble_eq_true rfl) (jSl_m (by decide)) (Or.inl rfl)
  refine kj_pqa hx hb hts hK had hs hown hin2 (n0 := 113) (i := 11) (v := 123) (by rw [lnK]; decide) (by unfold ri_; omega) (tkk kK_112 (by decide)) fB_8_12 rfl ff_X5_52 dX5_init_107 (fun M1 e1 => ?_)
  subst e1
  have hf := jFr_up (c := 112) (i := 12) (v := ((123 : Nat) : Int)) hf (by decide)
  refine j_aload_n hO dX5_init_110 rfl 0 rfl ?_
  refine j_bipush hO dX5_init_111 (by decide) ?_
  refine kj_ai hx hb hts hK had hs hty.2.1 (n0 := 113) (i := 11) (N := 108) (n := 124) (i1 := 12) rfl rfl kK_124 rfl (by decide) om_1617 dX5_init_113 (Nat.le_of_ble_eq_true rfl) (jSl_m (by decide)) hf ?_
  have hf := jFr_w (n' := 125) hf (by decide)
  have hO := kj_ok (rm := ({ frames := 2, cells := 32, slots := jSl ftB ksK 145 - jSl ftB ksK 113, locals := 41 } : Room)) (ft := ftB) (Qs := Qs) (i := 12) (rk := 5) (post := fun _ _ => True) hc (by rw [lnK]; decide) (Nat.le_of_ble_eq_true rfl) (jSl_m (by decide)) (Or.inl rfl)
  refine kj_pqa hx hb hts hK had hs hown hin2 (n0 := 113) (i := 12) (v := 124) (by rw [lnK]; decide) (by unfold ri_; omega) (tkk kK_112 (by decide)) fB_8_13 rfl ff_X5_55 dX5_init_115 (fun M1 e1 => ?_)
  subst e1
  have hf := jFr_up (c := 112) (i := 13) (v := ((124 : Nat) : Int)) hf (by decide)
  refine j_aload_n hO dX5_init_118 rfl 0 rfl ?_
  refine j_sipush hO dX5_init_119 (by decide) ?_
  refine kj_az hx hb hts hK had hs hty.2.2.2 (n0 := 113) (i := 12) (N := 400) (n := 125) (i1 := 13) rfl rfl kK_125 rfl (by decide) om_1646 dX5_init_122 (Nat.le_of_ble_eq_true rfl) (jSl_m (by decide)) hf ?_
  have hf := jFr_w (n' := 126) hf (by decide)
  have hO := kj_ok (rm := ({ frames := 2, cells := 32, slots := jSl ftB ksK 145 - jSl ftB ksK 113, locals := 41 } : Room)) (ft := ftB) (Qs := Qs) (i := 13) (rk := 5) (post := fun _ _ => True) hc (by rw [lnK]; decide) (Nat.le_of_ble_eq_true rfl) (jSl_m (by decide)) (Or.inl rfl)
  refine kj_pqa hx hb hts hK had hs hown hin2 (n0 := 113) (i := 13) (v := 125) (by rw [lnK]; decide) (by unfold ri_; omega) (tkk kK_112 (by decide)) fB_8_14 rfl ff_X5_58 dX5_init_124 (fun M1 e1 => ?_)
  subst e1
  have hf := jFr_up (c := 112) (i := 14) (v := ((125 : Nat) : Int)) hf (by decide)
  refine j_aload_n hO dX5_init_127 rfl 0 rfl ?_
  refine j_sipush hO dX5_init_128 (by decide) ?_
  refine kj_ai hx hb hts hK had hs hty.2.1 (n0 := 113) (i := 13) (N := 400) (n := 126) (i1 := 14) rfl rfl kK_126 rfl (by decide) om_1617 dX5_init_131 (Nat.le_of_ble_eq_true rfl) (jSl_m (by decide)) hf ?_
  have hf := jFr_w (n' := 127) hf (by decide)
  have hO := kj_ok (rm := ({ frames := 2, cells := 32, slots := jSl ftB ksK 145 - jSl ftB ksK 113, locals := 41 } : Room)) (ft := ftB) (Qs := Qs) (i := 14) (rk := 5) (post := fun _ _ => True) hc (by rw [lnK]; decide) (Nat.le_of_ble_eq_true rfl) (jSl_m (by decide)) (Or.inl rfl)
  refine kj_pqa hx hb hts hK had hs hown hin2 (n0 := 113) (i := 14) (v := 126) (by rw [lnK]; decide) (by unfold ri_; omega) (tkk kK_112 (by decide)) fB_8_15 rfl ff_X5_61 dX5_init_133 (fun M1 e1 => ?_)
  subst e1
  have hf := jFr_up (c := 112) (i := 15) (v := ((126 : Nat) : Int)) hf (by decide)
  refine j_aload_n hO dX5_init_136 rfl 0 rfl ?_
  refine j_sipush hO dX5_init_137 (by decide) ?_
  refine kj_ai hx hb hts hK had hs hty.2.1 (n0 := 113) (i := 14) (N := 400) (n := 127) (i1 := 15) rfl rfl kK_127 rfl (by decide) om_1617 dX5_init_140 (Nat.le_of_ble_eq_true rfl) (jSl_m (by decide)) hf ?_
  have hf := jFr_w (n' := 128) hf (by decide)
  have hO := kj_ok (rm := ({ frames := 2, cells := 32, slots := jSl ftB ksK 145 - jSl ftB ksK 113, locals := 41 } : Room)) (ft := ftB) (Qs := Qs) (i := 15) (rk := 5) (post := fun _ _ => True) hc (by rw [lnK]; decide) (Nat.le_of_ble_eq_true rfl) (jSl_m (by decide)) (Or.inl rfl)
  refine kj_pqa hx hb hts hK had hs hown hin2 (n0 := 113) (i := 15) (v := 127) (by rw [lnK]; decide) (by unfold ri_; omega) (tkk kK_112 (by decide)) fB_8_17 rfl ff_X5_64 dX5_init_142 (fun M1 e1 => ?_)
  subst e1
  have hf := jFr_up (c := 112) (i := 17) (v := ((127 : Nat) : Int)) hf (by decide)
  refine j_aload_n hO dX5_init_145 rfl 0 rfl ?_
  refine j_sipush hO dX5_init_146 (by decide) ?_
  refine kj_ai hx hb hts hK had hs hty.2.1 (n0 := 113) (i := 15) (N := 400) (n := 128) (i1 := 16) rfl rfl kK_128 rfl (by decide) om_1617 dX5_init_149 (Nat.le_of_ble_eq_true rfl) (jSl_m (by decide)) hf ?_
  have hf := jFr_w (n' := 129) hf (by decide)
  have hO := kj_ok (rm := ({ frames := 2, cells := 32, slots := jSl ftB ksK 145 - jSl ftB ksK 113, locals := 41 } : Room)) (ft := ftB) (Qs := Qs) (i := 16) (rk := 5) (post := fun _ _ => True) hc (by rw [lnK]; decide) (Nat.le_of_ble_eq_true rfl) (jSl_m (by decide)) (Or.inl rfl)
  refine kj_pqa hx hb hts hK had hs hown hin2 (n0 := 113) (i := 16) (v := 128) (by rw [lnK]; decide) (by unfold ri_; omega) (tkk kK_112 (by decide)) fB_8_18 rfl ff_X5_67 dX5_init_151 (fun M1 e1 => ?_)
  subst e1
  have hf := jFr_up (c := 112) (i := 18) (v := ((128 : Nat) : Int)) hf (by decide)
  refine j_aload_n hO dX5_init_154 rfl 0 rfl ?_
  refine j_sipush hO dX5_init_155 (by decide) ?_
  refine kj_ai hx hb hts hK had hs hty.2.1 (n0 := 113) (i := 16) (N := 400) (n := 129) (i1 := 17) rfl rfl kK_129 rfl (by decide) om_1617 dX5_init_158 (Nat.le_of_ble_eq_true rfl) (jSl_m (by decide)) hf ?_
  have hf := jFr_w (n' := 130) hf (by decide)
  have hO := kj_ok (rm := ({ frames := 2, cells := 32, slots := jSl ftB ksK 145 - jSl ftB ksK 113, locals := 41 } : Room)) (ft := ftB) (Qs := Qs) (i := 17) (rk := 5) (post := fun _ _ => True) hc (by rw [lnK]; decide) (Nat.le_of_ble_eq_true rfl) (jSl_m (by decide)) (Or.inl rfl)
  refine kj_pqa hx hb hts hK had hs hown hin2 (n0 := 113) (i := 17) (v := 129) (by rw [lnK]; decide) (by unfold ri_; omega) (tkk kK_112 (by decide)) fB_8_19 rfl ff_X5_70 dX5_init_160 (fun M1 e1 => ?_)
  subst e1
  have hf := jFr_up (c := 112) (i := 19) (v := ((129 : Nat) : Int)) hf (by decide)
  refine j_aload_n hO dX5_init_163 rfl 0 rfl ?_
  refine kj_new hx hb hts hK had hs hown (n0 := 113) (i := 17) (n := 130) (i1 := 18) rfl rfl kK_130 nc_X5_73 dX5_init_164 (Nat.le_of_ble_eq_true rfl) (jSl_m (by decide)) hf ?_
  have hf := jFr_w (n' := 131) hf (by decide)
  have hO := kj_ok (rm := ({ frames := 2, cells := 32, slots := jSl ftB ksK 145 - jSl ftB ksK 113, locals := 41 } : Room)) (ft := ftB) (Qs := Qs) (i := 18) (rk := 5) (post := fun _ _ => True) hc (by rw [lnK]; decide) (Nat.le_of_ble_eq_true rfl) (jSl_m (by decide)) (Or.inl rfl)
  refine j_dup hO dX5_init_167 rfl ?_
  refine j_aload_n hO dX5_init_168 rfl 1 rfl ?_
  refine kj_call hx hb hts hK had hs hml hown hgo hXc hXt (n0 := 113) (i := 18) (nn := 131) (i2 := 32) (c0 := 130) rfl rfl (c_X8_init_130 (l := l) (D := D) (cy := cy) (xs := xs) (L := L) had) rfl om_1739 ⟨rfl, rfl, Nat.le_of_ble_eq_true rfl, Nat.le_of_ble_eq_true rfl⟩ [.ref (ad 8)] ⟨om_1740, om_1741, om_422⟩ rfl hd_X8_init rfl (Nat.le_of_ble_eq_true rfl) dX5_init_169 (by rw [lnK]; decide) (Nat.le_of_ble_eq_true rfl) (jSl_m (by decide)) (P := fun M1 => M1 = T_X8_init_130 _) ⟨rfl, hf, rfl⟩ (fun M1 e1 => ?_)
  subst e1
  have hf := fr_X8_init_130 (n := 145) (by decide) (jFr_w (n' := 145) hf (by decide))
  have hO := kj_ok (rm := ({ frames := 2, cells := 32, slots := jSl ftB ksK 145 - jSl ftB ksK 113, locals := 41 } : Room)) (ft := ftB) (Qs := Qs) (i := 32) (rk := 5) (post := fun _ _ => True) hc (by rw [lnK]; decide) (Nat.le_of_ble_eq_true rfl) (jSl_m (by decide)) (Or.inl rfl)
  refine kj_pq hx hb hts hK had hs hown hin2 (n0 := 113) (i := 32) (v := 130) (by rw [lnK]; decide) (by unfold ri_; omega) (tkk kK_112 (by decide)) fB_8_20 rfl ff_X5_78 dX5_init_172 (fun M1 e1 => ?_)
  subst e1
  have hf := jFr_up (c := 112) (i := 20) (v := ((130 : Nat) : Int)) hf (by decide)
  exact hret _ _ _ dX5_init_175 hF
set_option maxHeartbeats 4000000 in
set_option maxRecDepth 100000 in
theorem c_X8_init_163 {l : Launch} {D : va_G} {cy : Nat → ClassId} {ad : Nat → Nat} {xs : Nat → Int} {L b0 : Nat} (had : ∀ k, k < ksK.length → ad k = b0 + k) : jKN l D vwCl (tyB cy) cy ad ftB ksK (XtB ad xs L) yX8_init (.code yX8_init cX8_init 2 none :: Om) ({ frames := 1, cells := 14, slots := jSl ftB ksK 178 - jSl ftB ksK 164, locals := 20 } : Room) b0 164 14 (W_X8_init_163 ad) := by
  refine jKN_of (y := yX8_init) (cc := cX8_init) (nL := 2) (rm := ({ frames := 1, cells := 14, slots := jSl ftB ksK 178 - jSl ftB ksK 164, locals := 20 } : Room)) (own := RX8) (tyB_ok cy) had (XtB_ok ad xs L) Om_good (by decide) rfl rfl ?_
  intro post av M hF
  obtain ⟨rfl, hf, hF⟩ := hF
  refine ⟨Nat.le_of_ble_eq_true rfl, fun p e s m below meth c Qs hc hin2 hret => ?_⟩
  obtain ⟨hx, hb, hml, hown, hts, hK, hty, -, hgo, hXc, hXt, hs⟩ := id hc
  have hO := kj_ok (rm := ({ frames := 1, cells := 14, slots := jSl ftB ksK 178 - jSl ftB ksK 164, locals := 20 } : Room)) (ft := ftB) (Qs := Qs) (i := 0) (rk := 5) (post := fun _ _ => True) hc (by rw [lnK]; decide) (Nat.le_of_ble_eq_true rfl) (jSl_m (by decide)) (Or.inl rfl)
  refine j_aload_n hO dX8_init_0 rfl 0 rfl ?_
  refine kj_obj hx hb hml hts hown ⟨om_1723, om_1612, om_1613⟩ dX8_init_1 (Nat.le_of_ble_eq_true rfl) (Nat.le_of_ble_eq_true rfl) (Nat.le_of_ble_eq_true rfl) ?_
  refine j_aload_n hO dX8_init_4 rfl 0 rfl ?_
  refine j_aload_n hO dX8_init_5 rfl 1 rfl ?_
  refine kj_pq hx hb hts hK had hs hown hin2 (n0 := 164) (i := 0) (v := 8) (by rw [lnK]; decide) (by unfold ri_; omega) (tkk kK_163 (by decide)) fB_11_0 rfl ff_X8_9 dX8_init_6 (fun M1 e1 => ?_)
  subst e1
  have hf := jFr_up (c := 163) (i := 0) (v := ((8 : Nat) : Int)) hf (by decide)
  refine j_aload_n hO dX8_init_9 rfl 0 rfl ?_
  refine j_sipush hO dX8_init_10 (by decide) ?_
  refine kj_ai hx hb hts hK had hs hty.2.1 (n0 := 164) (i := 0) (N := 401) (n := 164) (i1 := 1) rfl rfl kK_164 rfl (by decide) om_1617 dX8_init_13 (Nat.le_of_ble_eq_true rfl) (jSl_m (by decide)) hf ?_
  have hf := jFr_w (n' := 165) hf (by decide)
  have hO := kj_ok (rm := ({ frames := 1, cells := 14, slots := jSl ftB ksK 178 - jSl ftB ksK 164, locals := 20 } : Room)) (ft := ftB) (Qs := Qs) (i := 1) (rk := 5) (post := fun _ _ => True) hc (by rw [lnK]; decide) (Nat.le_of_ble_eq_true rfl) (jSl_m (by decide)) (Or.inl rfl)
  refine kj_pqa hx hb hts hK had hs hown hin2 (n0 := 164) (i := 1) (v := 164) (by rw [lnK]; decide) (by unfold ri_; omega) (tkk kK_163 (by decide)) fB_11_2 rfl ff_X8_17 dX8_init_15 (fun M1 e1 => ?_)
  subst e1
  have hf := jFr_up (c := 163) (i := 2) (v := ((164 : Nat) : Int)) hf (by decide)
  refine j_aload_n hO dX8_init_18 rfl 0 rfl ?_
  refine j_sipush hO dX8_init_19 (by decide) ?_
  refine kj_ai hx hb hts hK had hs hty.2.1 (n0 := 164) (i := 1) (N := 4108) (n := 165) (i1 := 2) rfl rfl kK_165 rfl (by decide) om_1617 dX8_init_22 (Nat.le_of_ble_eq_true rfl) (jSl_m (by decide)) hf ?_
  have hf := jFr_w (n' := 166) hf (by decide)
  have hO := kj_ok (rm := ({ frames := 1, cells := 14, slots := jSl ftB ksK 178 - jSl ftB ksK 164, locals := 20 } : Room)) (ft := ftB) (Qs := Qs) (i := 2) (rk := 5) (post := fun _ _ => True) hc (by rw [lnK]; decide) (Nat.le_of_ble_eq_true rfl) (jSl_m (by decide)) (Or.inl rfl)
  refine kj_pqa hx hb hts hK had hs hown hin2 (n0 := 164) (i := 2) (v := 165) (by rw [lnK]; decide) (by unfold ri_; omega) (tkk kK_163 (by decide)) fB_11_3 rfl ff_X8_21 dX8_init_24 (fun M1 e1 => ?_)
  subst e1
  have hf := jFr_up (c := 163) (i := 3) (v := ((165 : Nat) : Int)) hf (by decide)
  refine j_aload_n hO dX8_init_27 rfl 0 rfl ?_
  refine j_sipush hO dX8_init_28 (by decide) ?_
  refine kj_ai hx hb hts hK had hs hty.2.1 (n0 := 164) (i := 2) (N := 4108) (n := 166) (i1 := 3) rfl rfl kK_166 rfl (by decide) om_1617 dX8_init_31 (Nat.le_of_ble_eq_true rfl) (jSl_m (by decide)) hf ?_
  have hf := jFr_w (n' := 167) hf (by decide)
  have hO := kj_ok (rm := ({ frames := 1, cells := 14, slots := jSl ftB ksK 178 - jSl ftB ksK 164, locals := 20 } : Room)) (ft := ftB) (Qs := Qs) (i := 3) (rk := 5) (post := fun _ _ => True) hc (by rw [lnK]; decide) (Nat.le_of_ble_eq_true rfl) (jSl_m (by decide)) (Or.inl rfl)
  refine kj_pqa hx hb hts hK had hs hown hin2 (n0 := 164) (i := 3) (v := 166) (by rw [lnK]; decide) (by unfold ri_; omega) (tkk kK_163 (by decide)) fB_11_4 rfl ff_X8_24 dX8_init_33 (fun M1 e1 => ?_)
  subst e1
  have hf := jFr_up (c := 163) (i := 4) (v := ((166 : Nat) : Int)) hf (by decide)
  refine j_aload_n hO dX8_init_36 rfl 0 rfl ?_
  refine j_sipush hO dX8_init_37 (by decide) ?_
  refine kj_ai hx hb hts hK had hs hty.2.1 (n0 := 164) (i := 3) (N := 400) (n := 167) (i1 := 4) rfl rfl kK_167 rfl (by decide) om_1617 dX8_init_40 (Nat.le_of_ble_eq_true rfl) (jSl_m (by decide)) hf ?_
  have hf := jFr_w (n' := 168) hf (by decide)
  have hO := kj_ok (rm := ({ frames := 1, cells := 14, slots := jSl ftB ksK 178 - jSl ftB ksK 164, locals := 20 } : Room)) (ft := ftB) (Qs := Qs) (i := 4) (rk := 5) (post := fun _ _ => True) hc (by rw [lnK]; decide) (Nat.le_of_ble_eq_true rfl) (jSl_m (by decide)) (Or.inl rfl)
  refine kj_pqa hx hb hts hK had hs hown hin2 (n0 := 164) (i := 4) (v := 167) (by rw [lnK]; decide) (by unfold ri_; omega) (tkk kK_163 (by decide)) fB_11_5 rfl ff_X8_27 dX8_init_42 (fun M1 e1 => ?_)
  subst e1
  have hf := jFr_up (c := 163) (i := 5) (v := ((167 : Nat) : Int)) hf (by decide)
  refine j_aload_n hO dX8_init_45 rfl 0 rfl ?_
  refine j_sipush hO dX8_init_46 (by decide) ?_
  refine kj_ai hx hb hts hK had hs hty.2.1 (n0 := 164) (i := 4) (N := 400) (n := 168) (i1 := 5) rfl rfl kK_168 rfl (by decide) om_1617 dX8_init_49 (Nat.le_of_ble_eq_true rfl) (jSl_m (by decide)) hf ?_
  have hf := jFr_w (n' := 169) hf (by decide)
  have hO := kj_ok (rm := ({ frames := 1, cells := 14, slots := jSl ftB ksK 178 - jSl ftB ksK 164, locals := 20 } : Room)) (ft := ftB) (Qs := Qs) (i := 5) (rk := 5) (post := fun _ _ => True) hc (by rw [lnK]; decide) (Nat.le_of_ble_eq_true rfl) (jSl_m (by decide)) (Or.inl rfl)
  refine kj_pqa hx hb hts hK had hs hown hin2 (n0 := 164) (i := 5) (v := 168) (by rw [lnK]; decide) (by unfold ri_; omega) (tkk kK_163 (by decide)) fB_11_6 rfl ff_X8_30 dX8_init_51 (fun M1 e1 => ?_)
  subst e1
  have hf := jFr_up (c := 163) (i := 6) (v := ((168 : Nat) : Int)) hf (by decide)
  refine j_aload_n hO dX8_init_54 rfl 0 rfl ?_
  refine j_sipush hO dX8_init_55 (by decide) ?_
  refine kj_ai hx hb hts hK had hs hty.2.1 (n0 := 164) (i := 5) (N := 400) (n := 169) (i1 := 6) rfl rfl kK_169 rfl (by decide) om_1617 dX8_init_58 (Nat.le_of_ble_eq_true rfl) (jSl_m (by decide)) hf ?_
  have hf := jFr_w (n' := 170) hf (by decide)
  have hO := kj_ok (rm := ({ frames := 1, cells := 14, slots := jSl ftB ksK 178 - jSl ftB ksK 164, locals := 20 } : Room)) (ft := ftB) (Qs := Qs) (i := 6) (rk := 5) (post := fun _ _ => True) hc (by rw [lnK]; decide) (Nat.le_of_ble_eq_true rfl) (jSl_m (by decide)) (Or.inl rfl)
  refine kj_pqa hx hb hts hK had hs hown hin2 (n0 := 164) (i := 6) (v := 169) (by rw [lnK]; decide) (by unfold ri_; omega) (tkk kK_163 (by decide)) fB_11_7 rfl ff_X8_33 dX8_init_60 (fun M1 e1 => ?_)
  subst e1
  have hf := jFr_up (c := 163) (i := 7) (v := ((169 : Nat) : Int)) hf (by decide)
  refine j_aload_n hO dX8_init_63 rfl 0 rfl ?_
  refine j_sipush hO dX8_init_64 (by decide) ?_
  refine kj_ai hx hb hts hK had hs hty.2.1 (n0 := 164) (i := 6) (N := 400) (n := 170) (i1 := 7) rfl rfl kK_170 rfl (by decide) om_1617 dX8_init_67 (Nat.le_of_ble_eq_true rfl) (jSl_m (by decide)) hf ?_
  have hf := jFr_w (n' := 171) hf (by decide)
  have hO := kj_ok (rm := ({ frames := 1, cells := 14, slots := jSl ftB ksK 178 - jSl ftB ksK 164, locals := 20 } : Room)) (ft := ftB) (Qs := Qs) (i := 7) (rk := 5) (post := fun _ _ => True) hc (by rw [lnK]; decide) (Nat.le_of_ble_eq_true rfl) (jSl_m (by decide)) (Or.inl rfl)
  refine kj_pqa hx hb hts hK had hs hown hin2 (n0 := 164) (i := 7) (v := 170) (by rw [lnK]; decide) (by unfold ri_; omega) (tkk kK_163 (by decide)) fB_11_8 rfl ff_X8_36 dX8_init_69 (fun M1 e1 => ?_)
  subst e1
  have hf := jFr_up (c := 163) (i := 8) (v := ((170 : Nat) : Int)) hf (by decide)
  refine j_aload_n hO dX8_init_72 rfl 0 rfl ?_
  refine j_sipush hO dX8_init_73 (by decide) ?_
  refine kj_ai hx hb hts hK had hs hty.2.1 (n0 := 164) (i := 7) (N := 400) (n := 171) (i1 := 8) rfl rfl kK_171 rfl (by decide) om_1617 dX8_init_76 (Nat.le_of_ble_eq_true rfl) (jSl_m (by decide)) hf ?_
  have hf := jFr_w (n' := 172) hf (by decide)
  have hO := kj_ok (rm := ({ frames := 1, cells := 14, slots := jSl ftB ksK 178 - jSl ftB ksK 164, locals := 20 } : Room)) (ft := ftB) (Qs := Qs) (i := 8) (rk := 5) (post := fun _ _ => True) hc (by rw [lnK]; decide) (Nat.le_of_ble_eq_true rfl) (jSl_m (by decide)) (Or.inl rfl)
  refine kj_pqa hx hb hts hK had hs hown hin2 (n0 := 164) (i := 8) (v := 171) (by rw [lnK]; decide) (by unfold ri_; omega) (tkk kK_163 (by decide)) fB_11_10 rfl ff_X8_39 dX8_init_78 (fun M1 e1 => ?_)
  subst e1
  have hf := jFr_up (c := 163) (i := 10) (v := ((171 : Nat) : Int)) hf (by decide)
  refine j_aload_n hO dX8_init_81 rfl 0 rfl ?_
  refine j_sipush hO dX8_init_82 (by decide) ?_
  refine kj_ai hx hb hts hK had hs hty.2.1 (n0 := 164) (i := 8) (N := 400) (n := 172) (i1 := 9) rfl rfl kK_172 rfl (by decide) om_1617 dX8_init_85 (Nat.le_of_ble_eq_true rfl) (jSl_m (by decide)) hf ?_
  have hf := jFr_w (n' := 173) hf (by decide)
  have hO := kj_ok (rm := ({ frames := 1, cells := 14, slots := jSl ftB ksK 178 - jSl ftB ksK 164, locals := 20 } : Room)) (ft := ftB) (Qs := Qs) (i := 9) (rk := 5) (post := fun _ _ => True) hc (by rw [lnK]; decide) (Nat.le_of_ble_eq_true rfl) (jSl_m (by decide)) (Or.inl rfl)
  refine kj_pqa hx hb hts hK had hs hown hin2 (n0 := 164) (i := 9) (v := 172) (by rw [lnK]; decide) (by unfold ri_; omega) (tkk kK_163 (by decide)) fB_11_12 rfl ff_X8_42 dX8_init_87 (fun M1 e1 => ?_)
  subst e1
  have hf := jFr_up (c := 163) (i := 12) (v := ((172 : Nat) : Int)) hf (by decide)
  refine j_aload_n hO dX8_init_90 rfl 0 rfl ?_
  refine j_sipush hO dX8_init_91 (by decide) ?_
  refine kj_ai hx hb hts hK had hs hty.2.1 (n0 := 164) (i := 9) (N := 400) (n := 173) (i1 := 10) rfl rfl kK_173 rfl (by decide) om_1617 dX8_init_94 (Nat.le_of_ble_eq_true rfl) (jSl_m (by decide)) hf ?_
  have hf := jFr_w (n' := 174) hf (by decide)
  have hO := kj_ok (rm := ({ frames := 1, cells := 14, slots := jSl ftB ksK 178 - jSl ftB ksK 164, locals := 20 } : Room)) (ft := ftB) (Qs := Qs) (i := 10) (rk := 5) (post := fun _ _ => True) hc (by rw [lnK]; decide) (Nat.le_of_ble_eq_true rfl) (jSl_m (by decide)) (Or.inl rfl)
  refine kj_pqa hx hb hts hK had hs hown hin2 (n0 := 164) (i := 10) (v := 173) (by rw [lnK]; decide) (by unfold ri_; omega) (tkk kK_163 (by decide)) fB_11_13 rfl ff_X8_45 dX8_init_96 (fun M1 e1 => ?_)
  subst e1
  have hf := jFr_up (c := 163) (i := 13) (v := ((173 : Nat) : Int)) hf (by decide)
  refine j_aload_n hO dX8_init_99 rfl 0 rfl ?_
  refine j_sipush hO dX8_init_100 (by decide) ?_
  refine kj_ai hx hb hts hK had hs hty.2.1 (n0 := 164) (i := 10) (N := 400) (n := 174) (i1 := 11) rfl rfl kK_174 rfl (by decide) om_1617 dX8_init_103 (Nat.le_of_ble_eq_true rfl) (jSl_m (by decide)) hf ?_
  have hf := jFr_w (n' := 175) hf (by decide)
  have hO := kj_ok (rm := ({ frames := 1, cells := 14, slots := jSl ftB ksK 178 - jSl ftB ksK 164, locals := 20 } : Room)) (ft := ftB) (Qs := Qs) (i := 11) (rk := 5) (post := fun _ _ => True) hc (by rw [lnK]; decide) (Nat.le_of_ble_eq_true rfl) (jSl_m (by decide)) (Or.inl rfl)
  refine kj_pqa hx hb hts hK had hs hown hin2 (n0 := 164) (i := 11) (v := 174) (by rw [lnK]; decide) (by unfold ri_; omega) (tkk kK_163 (by decide)) fB_11_14 rfl ff_X8_48 dX8_init_105 (fun M1 e1 => ?_)
  subst e1
  have hf := jFr_up (c := 163) (i := 14) (v := ((174 : Nat) : Int)) hf (by decide)
  refine j_aload_n hO dX8_init_108 rfl 0 rfl ?_
  refine j_sipush hO dX8_init_109 (by decide) ?_
  refine kj_ai hx hb hts hK had hs hty.2.1 (n0 := 164) (i := 11) (N := 400) (n := 175) (i1 := 12) rfl rfl kK_175 rfl (by decide) om_1617 dX8_init_112 (Nat.le_of_ble_eq_true rfl) (jSl_m (by decide)) hf ?_
  have hf := jFr_w (n' := 176) hf (by decide)
  have hO := kj_ok (rm := ({ frames := 1, cells := 14, slots := jSl ftB ksK 178 - jSl ftB ksK 164, locals := 20 } : Room)) (ft := ftB) (Qs := Qs) (i := 12) (rk := 5) (post := fun _ _ => True) hc (by rw [lnK]; decide) (Nat.le_of_ble_eq_true rfl) (jSl_m (by decide)) (Or.inl rfl)
  refine kj_pqa hx hb hts hK had hs hown hin2 (n0 := 164) (i := 12) (v := 175) (by rw [lnK]; decide) (by unfold ri_; omega) (tkk kK_163 (by decide)) fB_11_15 rfl ff_X8_51 dX8_init_114 (fun M1 e1 => ?_)
  subst e1
  have hf := jFr_up (c := 163) (i := 15) (v := ((175 : Nat) : Int)) hf (by decide)
  refine j_aload_n hO dX8_init_117 rfl 0 rfl ?_
  refine j_sipush hO dX8_init_118 (by decide) ?_
  refine kj_ai hx hb hts hK had hs hty.2.1 (n0 := 164) (i := 12) (N := 400) (n := 176) (i1 := 13) rfl rfl kK_176 rfl (by decide) om_1617 dX8_init_121 (Nat.le_of_ble_eq_true rfl) (jSl_m (by decide)) hf ?_
  have hf := jFr_w (n' := 177) hf (by decide)
  have hO := kj_ok (rm := ({ frames := 1, cells := 14, slots := jSl ftB ksK 178 - jSl ftB ksK 164, locals := 20 } : Room)) (ft := ftB) (Qs := Qs) (i := 13) (rk := 5) (post := fun _ _ => True) hc (by rw [lnK]; decide) (Nat.le_of_ble_eq_true rfl) (jSl_m (by decide)) (Or.inl rfl)
  refine kj_pqa hx hb hts hK had hs hown hin2 (n0 := 164) (i := 13) (v := 176) (by rw [lnK]; decide) (by unfold ri_; omega) (tkk kK_163 (by decide)) fB_11_16 rfl ff_X8_54 dX8_init_123 (fun M1 e1 => ?_)
  subst e1
  have hf := jFr_up (c := 163) (i := 16) (v := ((176 : Nat) : Int)) hf (by decide)
  refine j_aload_n hO dX8_init_126 rfl 0 rfl ?_
  refine j_sipush hO dX8_init_127 (by decide) ?_
  refine kj_ai hx hb hts hK had hs hty.2.1 (n0 := 164) (i := 13) (N := 512) (n := 177) (i1 := 14) rfl rfl kK_177 rfl (by decide) om_1617 dX8_init_130 (Nat.le_of_ble_eq_true rfl) (jSl_m (by decide)) hf ?_
  have hf := jFr_w (n' := 178) hf (by decide)
  have hO := kj_ok (rm := ({ frames := 1, cells := 14, slots := jSl ftB ksK 178 - jSl ftB ksK 164, locals := 20 } : Room)) (ft := ftB) (Qs := Qs) (i := 14) (rk := 5) (post := fun _ _ => True) hc (by rw [lnK]; decide) (Nat.le_of_ble_eq_true rfl) (jSl_m (by decide)) (Or.inl rfl)
  refine kj_pqa hx hb hts hK had hs hown hin2 (n0 := 164) (i := 14) (v := 177) (by rw [lnK]; decide) (by unfold ri_; omega) (tkk kK_163 (by decide)) fB_11_17 rfl ff_X8_57 dX8_init_132 (fun M1 e1 => ?_)
  subst e1
  have hf := jFr_up (c := 163) (i := 17) (v := ((177 : Nat) : Int)) hf (by decide)
  exact hret _ _ _ dX8_init_135 hF
set_option maxHeartbeats 4000000 in
set_option maxRecDepth 100000 in
theorem c_X5_init_145 {l : Launch} {D : va_G} {cy : Nat → ClassId} {ad : Nat → Nat} {xs : Nat → Int} {L b0 : Nat} (had : ∀ k, k < ksK.length → ad k = b0 + k) : jKN l D vwCl (tyB cy) cy ad ftB ksK (XtB ad xs L) yX5_init (.code yX5_init cX5_init 2 none :: Om) ({ frames := 2, cells := 32, slots := jSl ftB ksK 178 - jSl ftB ksK 146, locals := 41 } : Room) b0 146 32 (W_X5_init_145 ad) := by
  refine jKN_of (y := yX5_init) (cc := cX5_init) (nL := 2) (rm := ({ frames := 2, cells := 32, slots := jSl ftB ksK 178 - jSl ftB ksK 146, locals := 41 } : Room)) (own := RX5) (tyB_ok cy) had (XtB_ok ad xs L) Om_good (by decide) rfl rfl ?_
  intro post av M hF
  obtain ⟨rfl, hf, hF⟩ := hF
  refine ⟨Nat.le_of_ble_eq_true rfl, fun p e s m below meth c Qs hc hin2 hret => ?_⟩
  obtain ⟨hx, hb, hml, hown, hts, hK, hty, -, hgo, hXc, hXt, hs⟩ := id hc
  have hO := kj_ok (rm := ({ frames := 2, cells := 32, slots := jSl ftB ksK 178 - jSl ftB ksK 146, locals := 41 } : Room)) (ft := ftB) (Qs := Qs) (i := 0) (rk := 5) (post := fun _ _ => True) hc (by rw [lnK]; decide) (Nat.le_of_ble_eq_true rfl) (jSl_m (by decide)) (Or.inl rfl)
  refine j_aload_n hO dX5_init_0 rfl 0 rfl ?_
  refine kj_obj hx hb hml hts hown ⟨om_1702, om_1612, om_1613⟩ dX5_init_1 (Nat.le_of_ble_eq_true rfl) (Nat.le_of_ble_eq_true rfl) (Nat.le_of_ble_eq_true rfl) ?_
  refine j_aload_n hO dX5_init_4 rfl 0 rfl ?_
  refine j_sipush hO dX5_init_5 (by decide) ?_
  refine kj_ai hx hb hts hK had hs hty.2.1 (n0 := 146) (i := 0) (N := 400) (n := 146) (i1 := 1) rfl rfl kK_146 rfl (by decide) om_1617 dX5_init_8 (Nat.le_of_ble_eq_true rfl) (jSl_m (by decide)) hf ?_
  have hf := jFr_w (n' := 147) hf (by decide)
  have hO := kj_ok (rm := ({ frames := 2, cells := 32, slots := jSl ftB ksK 178 - jSl ftB ksK 146, locals := 41 } : Room)) (ft := ftB) (Qs := Qs) (i := 1) (rk := 5) (post := fun _ _ => True) hc (by rw [lnK]; decide) (Nat.le_of_ble_eq_true rfl) (jSl_m (by decide)) (Or.inl rfl)
  refine kj_pqa hx hb hts hK had hs hown hin2 (n0 := 146) (i := 1) (v := 146) (by rw [lnK]; decide) (by unfold ri_; omega) (tkk kK_145 (by decide)) fB_8_1 rfl ff_X5_11 dX5_init_10 (fun M1 e1 => ?_)
  subst e1
  have hf := jFr_up (c := 145) (i := 1) (v := ((146 : Nat) : Int)) hf (by decide)
  refine j_aload_n hO dX5_init_13 rfl 0 rfl ?_
  refine j_sipush hO dX5_init_14 (by decide) ?_
  refine kj_ai hx hb hts hK had hs hty.2.1 (n0 := 146) (i := 1) (N := 400) (n := 147) (i1 := 2) rfl rfl kK_147 rfl (by decide) om_1617 dX5_init_17 (Nat.le_of_ble_eq_true rfl) (jSl_m (by decide)) hf ?_
  have hf := jFr_w (n' := 148) hf (by decide)
  have hO := kj_ok (rm := ({ frames := 2, cells := 32, slots := jSl ftB ksK 178 - jSl ftB ksK 146, locals := 41 } : Room)) (ft := ftB) (Qs := Qs) (i := 2) (rk := 5) (post := fun _ _ => True) hc (by rw [lnK]; decide) (Nat.le_of_ble_eq_true rfl) (jSl_m (by decide)) (Or.inl rfl)
  refine kj_pqa hx hb hts hK had hs hown hin2 (n0 := 146) (i := 2) (v := 147) (by rw [lnK]; decide) (by unfold ri_; omega) (tkk kK_145 (by decide)) fB_8_2 rfl ff_X5_15 dX5_init_19 (fun M1 e1 => ?_)
  subst e1
  have hf := jFr_up (c := 145) (i := 2) (v := ((147 : Nat) : Int)) hf (by decide)
  refine j_aload_n hO dX5_init_22 rfl 0 rfl ?_
  refine j_sipush hO dX5_init_23 (by decide) ?_
  refine kj_ai hx hb hts hK had hs hty.2.1 (n0 := 146) (i := 2) (N := 400) (n := 148) (i1 := 3) rfl rfl kK_148 rfl (by decide) om_1617 dX5_init_26 (Nat.le_of_ble_eq_true rfl) (jSl_m (by decide)) hf ?_
  have hf := jFr_w (n' := 149) hf (by decide)
  have hO := kj_ok (rm := ({ frames := 2, cells := 32, slots := jSl ftB ksK 178 - jSl ftB ksK 146, locals := 41 } : Room)) (ft := ftB) (Qs := Qs) (i := 3) (rk := 5) (post := fun _ _ => True) hc (by rw [lnK]; decide) (Nat.le_of_ble_eq_true rfl) (jSl_m (by decide)) (Or.inl rfl)
  refine kj_pqa hx hb hts hK had hs hown hin2 (n0 := 146) (i := 3) (v := 148) (by rw [lnK]; decide) (by unfold ri_; omega) (tkk kK_145 (by decide)) fB_8_3 rfl ff_X5_18 dX5_init_28 (fun M1 e1 => ?_)
  subst e1
  have hf := jFr_up (c := 145) (i := 3) (v := ((148 : Nat) : Int)) hf (by decide)
  refine j_aload_n hO dX5_init_31 rfl 0 rfl ?_
  refine j_sipush hO dX5_init_32 (by decide) ?_
  refine kj_ai hx hb hts hK had hs hty.2.1 (n0 := 146) (i := 3) (N := 401) (n := 149) (i1 := 4) rfl rfl kK_149 rfl (by decide) om_1617 dX5_init_35 (Nat.le_of_ble_eq_true rfl) (jSl_m (by decide)) hf ?_
  have hf := jFr_w (n' := 150) hf (by decide)
  have hO := kj_ok (rm := ({ frames := 2, cells := 32, slots := jSl ftB ksK 178 - jSl ftB ksK 146, locals := 41 } : Room)) (ft := ftB) (Qs := Qs) (i := 4) (rk := 5) (post := fun _ _ => True) hc (by rw [lnK]; decide) (Nat.le_of_ble_eq_true rfl) (jSl_m (by decide)) (Or.inl rfl)
  refine kj_pqa hx hb hts hK had hs hown hin2 (n0 := 146) (i := 4) (v := 149) (by rw [lnK]; decide) (by unfold ri_; omega) (tkk kK_145 (by decide)) fB_8_4 rfl ff_X5_21 dX5_init_37 (fun M1 e1 => ?_)
  subst e1
  have hf := jFr_up (c := 145) (i := 4) (v := ((149 : Nat) : Int)) hf (by decide)
  refine j_aload_n hO dX5_init_40 rfl 0 rfl ?_
  refine j_sipush hO dX5_init_41 (by decide) ?_
  refine kj_ai hx hb hts hK had hs hty.2.1 (n0 := 146) (i := 4) (N := 400) (n := 150) (i1 := 5) rfl rfl kK_150 rfl (by decide) om_1617 dX5_init_44 (Nat.le_of_ble_eq_true rfl) (jSl_m (by decide)) hf ?_
  have hf := jFr_w (n' := 151) hf (by decide)
  have hO := kj_ok (rm := ({ frames := 2, cells := 32, slots := jSl ftB ksK 178 - jSl ftB ksK 146, locals := 41 } : Room)) (ft := ftB) (Qs := Qs) (i := 5) (rk := 5) (post := fun _ _ => True) hc (by rw [lnK]; decide) (Nat.le_of_ble_eq_true rfl) (jSl_m (by decide)) (Or.inl rfl)
  refine kj_pqa hx hb hts hK had hs hown hin2 (n0 := 146) (i := 5) (v := 150) (by rw [lnK]; decide) (by unfold ri_; omega) (tkk kK_145 (by decide)) fB_8_5 rfl ff_X5_24 dX5_init_46 (fun M1 e1 => ?_)
  subst e1
  have hf := jFr_up (c := 145) (i := 5) (v := ((150 : Nat) : Int)) hf (by decide)
  refine j_aload_n hO dX5_init_49 rfl 0 rfl ?_
  refine j_sipush hO dX5_init_50 (by decide) ?_
  refine kj_ai hx hb hts hK had hs hty.2.1 (n0 := 146) (i := 5) (N := 400) (n := 151) (i1 := 6) rfl rfl kK_151 rfl (by decide) om_1617 dX5_init_53 (Nat.le_of_ble_eq_true rfl) (jSl_m (by decide)) hf ?_
  have hf := jFr_w (n' := 152) hf (by decide)
  have hO := kj_ok (rm := ({ frames := 2, cells := 32, slots := jSl ftB ksK 178 - jSl ftB ksK 146, locals := 41 } : Room)) (ft := ftB) (Qs := Qs) (i := 6) (rk := 5) (post := fun _ _ => True) hc (by rw [lnK]; decide) (Nat.le_of_ble_eq_true rfl) (jSl_m (by decide)) (Or.inl rfl)
  refine kj_pqa hx hb hts hK had hs hown hin2 (n0 := 146) (i := 6) (v := 151) (by rw [lnK]; decide) (by unfold ri_; omega) (tkk kK_145 (by decide)) fB_8_6 rfl ff_X5_27 dX5_init_55 (fun M1 e1 => ?_)
  subst e1
  have hf := jFr_up (c := 145) (i := 6) (v := ((151 : Nat) : Int)) hf (by decide)
  refine j_aload_n hO dX5_init_58 rfl 0 rfl ?_
  refine j_sipush hO dX5_init_59 (by decide) ?_
  refine kj_ai hx hb hts hK had hs hty.2.1 (n0 := 146) (i := 6) (N := 400) (n := 152) (i1 := 7) rfl rfl kK_152 rfl (by decide) om_1617 dX5_init_62 (Nat.le_of_ble_eq_true rfl) (jSl_m (by decide)) hf ?_
  have hf := jFr_w (n' := 153) hf (by decide)
  have hO := kj_ok (rm := ({ frames := 2, cells := 32, slots := jSl ftB ksK 178 - jSl ftB ksK 146, locals := 41 } : Room)) (ft := ftB) (Qs := Qs) (i := 7) (rk := 5) (post := fun _ _ => True) hc (by rw [lnK]; decide) (Nat.le_of_ble_eq_true rfl) (jSl_m (by decide)) (Or.inl rfl)
  refine kj_pqa hx hb hts hK had hs hown hin2 (n0 := 146) (i := 7) (v := 152) (by rw [lnK]; decide) (by unfold ri_; omega) (tkk kK_145 (by decide)) fB_8_7 rfl ff_X5_30 dX5_init_64 (fun M1 e1 => ?_)
  subst e1
  have hf := jFr_up (c := 145) (i := 7) (v := ((152 : Nat) : Int)) hf (by decide)
  refine j_aload_n hO dX5_init_67 rfl 0 rfl ?_
  refine j_sipush hO dX5_init_68 (by decide) ?_
  refine kj_ai hx hb hts hK had hs hty.2.1 (n0 := 146) (i := 7) (N := 400) (n := 153) (i1 := 8) rfl rfl kK_153 rfl (by decide) om_1617 dX5_init_71 (Nat.le_of_ble_eq_true rfl) (jSl_m (by decide)) hf ?_
  have hf := jFr_w (n' := 154) hf (by decide)
  have hO := kj_ok (rm := ({ frames := 2, cells := 32, slots := jSl ftB ksK 178 - jSl ftB ksK 146, locals := 41 } : Room)) (ft := ftB) (Qs := Qs) (i := 8) (rk := 5) (post := fun _ _ => True) hc (by rw [lnK]; decide) (Nat.le_of_ble_eq_true rfl) (jSl_m (by decide)) (Or.inl rfl)
  refine kj_pqa hx hb hts hK had hs hown hin2 (n0 := 146) (i := 8) (v := 153) (by rw [lnK]; decide) (by unfold ri_; omega) (tkk kK_145 (by decide)) fB_8_8 rfl ff_X5_35 dX5_init_73 (fun M1 e1 => ?_)
  subst e1
  have hf := jFr_up (c := 145) (i := 8) (v := ((153 : Nat) : Int)) hf (by decide)
  refine j_aload_n hO dX5_init_76 rfl 0 rfl ?_
  refine j_gq (v := 153) hO (tkk kK_145 (by decide)) fB_8_8 rfl fl_X5_35 dX5_init_77 (by rfl) ?_
  refine j_iconst hO dX5_init_80 ?_
  refine j_callSv hO (c_J7_fill_53178_B (l := l) (D := D) (cy := cy) (ad := ad) (xs := xs) (L := L) (ksB := ksK.take (146 + 8)) (by rw [tkl (by rw [lnK]; decide)]; exact jIn_b (fun k hk => had k (by rw [lnK]; omega)))) rfl om_497 ⟨rfl, rfl, Nat.le_of_ble_eq_true rfl, Nat.le_of_ble_eq_true rfl⟩ [.ref (ad 153), .int (Ii (-1))] mv_X5_38 hd_J7_fill_53178 rfl (Nat.le_of_ble_eq_true rfl) dX5_init_81 (P := fun _ M1 => M1 = filled _ 153 0 (400 : Nat) (-1)) ⟨153, 400, (-1), rfl, (tkk kK_153 (by decide)), by decide, rk_m1, p_fillI (by decide) rfl⟩ (fun M1 e1 => ?_)
  subst e1
  have hf := jFr_fl (c := 153) (f := 0) (t := (400 : Nat)) (v := (-1)) hf (by decide)
  refine j_aload_n hO dX5_init_84 rfl 0 rfl ?_
  refine j_sipush hO dX5_init_85 (by decide) ?_
  refine kj_al hx hb hts hK had hs hty.2.2.1 (n0 := 146) (i := 8) (N := 4000) (n := 154) (i1 := 9) rfl rfl kK_154 rfl (by decide) om_1622 dX5_init_88 (Nat.le_of_ble_eq_true rfl) (jSl_m (by decide)) hf ?_
  have hf := jFr_w (n' := 155) hf (by decide)
  have hO := kj_ok (rm := ({ frames := 2, cells := 32, slots := jSl ftB ksK 178 - jSl ftB ksK 146, locals := 41 } : Room)) (ft := ftB) (Qs := Qs) (i := 9) (rk := 5) (post := fun _ _ => True) hc (by rw [lnK]; decide) (Nat.le_of_ble_eq_true rfl) (jSl_m (by decide)) (Or.inl rfl)
  refine kj_pqa hx hb hts hK had hs hown hin2 (n0 := 146) (i := 9) (v := 154) (by rw [lnK]; decide) (by unfold ri_; omega) (tkk kK_145 (by decide)) fB_8_9 rfl ff_X5_44 dX5_init_90 (fun M1 e1 => ?_)
  subst e1
  have hf := jFr_up (c := 145) (i := 9) (v := ((154 : Nat) : Int)) hf (by decide)
  refine j_aload_n hO dX5_init_93 rfl 0 rfl ?_
  refine j_sipush hO dX5_init_94 (by decide) ?_
  refine kj_az hx hb hts hK had hs hty.2.2.2 (n0 := 146) (i := 9) (N := 4000) (n := 155) (i1 := 10) rfl rfl kK_155 rfl (by decide) om_1646 dX5_init_97 (Nat.le_of_ble_eq_true rfl) (jSl_m (by decide)) hf ?_
  have hf := jFr_w (n' := 156) hf (by decide)
  have hO := kj_ok (rm := ({ frames := 2, cells := 32, slots := jSl ftB ksK 178 - jSl ftB ksK 146, locals := 41 } : Room)) (ft := ftB) (Qs := Qs) (i := 10) (rk := 5) (post := fun _ _ => True) hc (by rw [lnK]; decide) (Nat.le_of_ble_eq_true rfl) (jSl_m (by decide)) (Or.inl rfl)
  refine kj_pqa hx hb hts hK had hs hown hin2 (n0 := 146) (i := 10) (v := 155) (by rw [lnK]; decide) (by unfold ri_; omega) (tkk kK_145 (by decide)) fB_8_10 rfl ff_X5_48 dX5_init_99 (fun M1 e1 => ?_)
  subst e1
  have hf := jFr_up (c := 145) (i := 10) (v := ((155 : Nat) : Int)) hf (by decide)
  refine j_aload_n hO dX5_init_102 rfl 0 rfl ?_
  refine j_bipush hO dX5_init_103 (by decide) ?_
  refine kj_ai hx hb hts hK had hs hty.2.1 (n0 := 146) (i := 10) (N := 108) (n := 156) (i1 := 11) rfl rfl kK_156 rfl (by decide) om_1617 dX5_init_105 (Nat.le_of_ble_eq_true rfl) (jSl_m (by decide)) hf ?_
  have hf := jFr_w (n' := 157) hf (by decide)
  have hO := kj_ok (rm := ({ frames := 2, cells := 32, slots := jSl ftB ksK 178 - jSl ftB ksK 146, locals := 41 } : Room)) (ft := ftB) (Qs := Qs) (i := 11) (rk := 5) (post := fun _ _ => True) hc (by rw [lnK]; decide) (Nat.le_of_ble_eq_true rfl) (jSl_m (by decide)) (Or.inl rfl)
  refine kj_pqa hx hb hts hK had hs hown hin2 (n0 := 146) (i := 11) (v := 156) (by rw [lnK]; decide) (by unfold ri_; omega) (tkk kK_145 (by decide)) fB_8_12 rfl ff_X5_52 dX5_init_107 (fun M1 e1 => ?_)
  subst e1
  have hf := jFr_up (c := 145) (i := 12) (v := ((156 : Nat) : Int)) hf (by decide)
  refine j_aload_n hO dX5_init_110 rfl 0 rfl ?_
  refine j_bipush hO dX5_init_111 (by decide) ?_
  refine kj_ai hx hb hts hK had hs hty.2.1 (n0 := 146) (i := 11) (N := 108) (n := 157) (i1 := 12) rfl rfl kK_157 rfl (by decide) om_1617 dX5_init_113 (Nat.le_of_ble_eq_true rfl) (jSl_m (by decide)) hf ?_
  have hf := jFr_w (n' := 158) hf (by decide)
  have hO := kj_ok (rm := ({ frames := 2, cells := 32, slots := jSl ftB ksK 178 - jSl ftB ksK 146, locals := 41 } : Room)) (ft := ftB) (Qs := Qs) (i := 12) (rk := 5) (post := fun _ _ => True) hc (by rw [lnK]; decide) (Nat.le_of_ble_eq_true rfl) (jSl_m (by decide)) (Or.inl rfl)
  refine kj_pqa hx hb hts hK had hs hown hin2 (n0 := 146) (i := 12) (v := 157) (by rw [lnK]; decide) (by unfold ri_; omega) (tkk kK_145 (by decide)) fB_8_13 rfl ff_X5_55 dX5_init_115 (fun M1 e1 => ?_)
  subst e1
  have hf := jFr_up (c := 145) (i := 13) (v := ((157 : Nat) : Int)) hf (by decide)
  refine j_aload_n hO dX5_init_118 rfl 0 rfl ?_
  refine j_sipush hO dX5_init_119 (by decide) ?_
  refine kj_az hx hb hts hK had hs hty.2.2.2 (n0 := 146) (i := 12) (N := 400) (n := 158) (i1 := 13) rfl rfl kK_158 rfl (by decide) om_1646 dX5_init_122 (Nat.le_of_ble_eq_true rfl) (jSl_m (by decide)) hf ?_
  have hf := jFr_w (n' := 159) hf (by decide)
  have hO := kj_ok (rm := ({ frames := 2, cells := 32, slots := jSl ftB ksK 178 - jSl ftB ksK 146, locals := 41 } : Room)) (ft := ftB) (Qs := Qs) (i := 13) (rk := 5) (post := fun _ _ => True) hc (by rw [lnK]; decide) (Nat.le_of_ble_eq_true rfl) (jSl_m (by decide)) (Or.inl rfl)
  refine kj_pqa hx hb hts hK had hs hown hin2 (n0 := 146) (i := 13) (v := 158) (by rw [lnK]; decide) (by unfold ri_; omega) (tkk kK_145 (by decide)) fB_8_14 rfl ff_X5_58 dX5_init_124 (fun M1 e1 => ?_)
  subst e1
  have hf := jFr_up (c := 145) (i := 14) (v := ((158 : Nat) : Int)) hf (by decide)
  refine j_aload_n hO dX5_init_127 rfl 0 rfl ?_
  refine j_sipush hO dX5_init_128 (by decide) ?_
  refine kj_ai hx hb hts hK had hs hty.2.1 (n0 := 146) (i := 13) (N := 400) (n := 159) (i1 := 14) rfl rfl kK_159 rfl (by decide) om_1617 dX5_init_131 (Nat.le_of_ble_eq_true rfl) (jSl_m (by decide)) hf ?_
  have hf := jFr_w (n' := 160) hf (by decide)
  have hO := kj_ok (rm := ({ frames := 2, cells := 32, slots := jSl ftB ksK 178 - jSl ftB ksK 146, locals := 41 } : Room)) (ft := ftB) (Qs := Qs) (i := 14) (rk := 5) (post := fun _ _ => True) hc (by rw [lnK]; decide) (Nat.le_of_ble_eq_true rfl) (jSl_m (by decide)) (Or.inl rfl)
  refine kj_pqa hx hb hts hK had hs hown hin2 (n0 := 146) (i := 14) (v := 159) (by rw [lnK]; decide) (by unfold ri_; omega) (tkk kK_145 (by decide)) fB_8_15 rfl ff_X5_61 dX5_init_133 (fun M1 e1 => ?_)
  subst e1
  have hf := jFr_up (c := 145) (i := 15) (v := ((159 : Nat) : Int)) hf (by decide)
  refine j_aload_n hO dX5_init_136 rfl 0 rfl ?_
  refine j_sipush hO dX5_init_137 (by decide) ?_
  refine kj_ai hx hb hts hK had hs hty.2.1 (n0 := 146) (i := 14) (N := 400) (n := 160) (i1 := 15) rfl rfl kK_160 rfl (by decide) om_1617 dX5_init_140 (Nat.le_of_ble_eq_true rfl) (jSl_m (by decide)) hf ?_
  have hf := jFr_w (n' := 161) hf (by decide)
  have hO := kj_ok (rm := ({ frames := 2, cells := 32, slots := jSl ftB ksK 178 - jSl ftB ksK 146, locals := 41 } : Room)) (ft := ftB) (Qs := Qs) (i := 15) (rk := 5) (post := fun _ _ => True) hc (by rw [lnK]; decide) (Nat.le_of_ble_eq_true rfl) (jSl_m (by decide)) (Or.inl rfl)
  refine kj_pqa hx hb hts hK had hs hown hin2 (n0 := 146) (i := 15) (v := 160) (by rw [lnK]; decide) (by unfold ri_; omega) (tkk kK_145 (by decide)) fB_8_17 rfl ff_X5_64 dX5_init_142 (fun M1 e1 => ?_)
  subst e1
  have hf := jFr_up (c := 145) (i := 17) (v := ((160 : Nat) : Int)) hf (by decide)
  refine j_aload_n hO dX5_init_145 rfl 0 rfl ?_
  refine j_sipush hO dX5_init_146 (by decide) ?_
  refine kj_ai hx hb hts hK had hs hty.2.1 (n0 := 146) (i := 15) (N := 400) (n := 161) (i1 := 16) rfl rfl kK_161 rfl (by decide) om_1617 dX5_init_149 (Nat.le_of_ble_eq_true rfl) (jSl_m (by decide)) hf ?_
  have hf := jFr_w (n' := 162) hf (by decide)
  have hO := kj_ok (rm := ({ frames := 2, cells := 32, slots := jSl ftB ksK 178 - jSl ftB ksK 146, locals := 41 } : Room)) (ft := ftB) (Qs := Qs) (i := 16) (rk := 5) (post := fun _ _ => True) hc (by rw [lnK]; decide) (Nat.le_of_ble_eq_true rfl) (jSl_m (by decide)) (Or.inl rfl)
  refine kj_pqa hx hb hts hK had hs hown hin2 (n0 := 146) (i := 16) (v := 161) (by rw [lnK]; decide) (by unfold ri_; omega) (tkk kK_145 (by decide)) fB_8_18 rfl ff_X5_67 dX5_init_151 (fun M1 e1 => ?_)
  subst e1
  have hf := jFr_up (c := 145) (i := 18) (v := ((161 : Nat) : Int)) hf (by decide)
  refine j_aload_n hO dX5_init_154 rfl 0 rfl ?_
  refine j_sipush hO dX5_init_155 (by decide) ?_
  refine kj_ai hx hb hts hK had hs hty.2.1 (n0 := 146) (i := 16) (N := 400) (n := 162) (i1 := 17) rfl rfl kK_162 rfl (by decide) om_1617 dX5_init_158 (Nat.le_of_ble_eq_true rfl) (jSl_m (by decide)) hf ?_
  have hf := jFr_w (n' := 163) hf (by decide)
  have hO := kj_ok (rm := ({ frames := 2, cells := 32, slots := jSl ftB ksK 178 - jSl ftB ksK 146, locals := 41 } : Room)) (ft := ftB) (Qs := Qs) (i := 17) (rk := 5) (post := fun _ _ => True) hc (by rw [lnK]; decide) (Nat.le_of_ble_eq_true rfl) (jSl_m (by decide)) (Or.inl rfl)
  refine kj_pqa hx hb hts hK had hs hown hin2 (n0 := 146) (i := 17) (v := 162) (by rw [lnK]; decide) (by unfold ri_; omega) (tkk kK_145 (by decide)) fB_8_19 rfl ff_X5_70 dX5_init_160 (fun M1 e1 => ?_)
  subst e1
  have hf := jFr_up (c := 145) (i := 19) (v := ((162 : Nat) : Int)) hf (by decide)
  refine j_aload_n hO dX5_init_163 rfl 0 rfl ?_
  refine kj_new hx hb hts hK had hs hown (n0 := 146) (i := 17) (n := 163) (i1 := 18) rfl rfl kK_163 nc_X5_73 dX5_init_164 (Nat.le_of_ble_eq_true rfl) (jSl_m (by decide)) hf ?_
  have hf := jFr_w (n' := 164) hf (by decide)
  have hO := kj_ok (rm := ({ frames := 2, cells := 32, slots := jSl ftB ksK 178 - jSl ftB ksK 146, locals := 41 } : Room)) (ft := ftB) (Qs := Qs) (i := 18) (rk := 5) (post := fun _ _ => True) hc (by rw [lnK]; decide) (Nat.le_of_ble_eq_true rfl) (jSl_m (by decide)) (Or.inl rfl)
  refine j_dup hO dX5_init_167 rfl ?_
  refine j_aload_n hO dX5_init_168 rfl 1 rfl ?_
  refine kj_call hx hb hts hK had hs hml hown hgo hXc hXt (n0 := 146) (i := 18) (nn := 164) (i2 := 32) (c0 := 163) rfl rfl (c_X8_init_163 (l := l) (D := D) (cy := cy) (xs := xs) (L := L) had) rfl om_1739 ⟨rfl, rfl, Nat.le_of_ble_eq_true rfl, Nat.le_of_ble_eq_true rfl⟩ [.ref (ad 8)] ⟨om_1740, om_1741, om_422⟩ rfl hd_X8_init rfl (Nat.le_of_ble_eq_true rfl) dX5_init_169 (by rw [lnK]; decide) (Nat.le_of_ble_eq_true rfl) (jSl_m (by decide)) (P := fun M1 => M1 = T_X8_init_163 _) ⟨rfl, hf, rfl⟩ (fun M1 e1 => ?_)
  subst e1
  have hf := fr_X8_init_163 (n := 178) (by decide) (jFr_w (n' := 178) hf (by decide))
  have hO := kj_ok (rm := ({ frames := 2, cells := 32, slots := jSl ftB ksK 178 - jSl ftB ksK 146, locals := 41 } : Room)) (ft := ftB) (Qs := Qs) (i := 32) (rk := 5) (post := fun _ _ => True) hc (by rw [lnK]; decide) (Nat.le_of_ble_eq_true rfl) (jSl_m (by decide)) (Or.inl rfl)
  refine kj_pq hx hb hts hK had hs hown hin2 (n0 := 146) (i := 32) (v := 163) (by rw [lnK]; decide) (by unfold ri_; omega) (tkk kK_145 (by decide)) fB_8_20 rfl ff_X5_78 dX5_init_172 (fun M1 e1 => ?_)
  subst e1
  have hf := jFr_up (c := 145) (i := 20) (v := ((163 : Nat) : Int)) hf (by decide)
  exact hret _ _ _ dX5_init_175 hF
set_option maxHeartbeats 4000000 in
set_option maxRecDepth 100000 in
theorem c_X8_init_196 {l : Launch} {D : va_G} {cy : Nat → ClassId} {ad : Nat → Nat} {xs : Nat → Int} {L b0 : Nat} (had : ∀ k, k < ksK.length → ad k = b0 + k) : jKN l D vwCl (tyB cy) cy ad ftB ksK (XtB ad xs L) yX8_init (.code yX8_init cX8_init 2 none :: Om) ({ frames := 1, cells := 14, slots := jSl ftB ksK 211 - jSl ftB ksK 197, locals := 20 } : Room) b0 197 14 (W_X8_init_196 ad) := by
  refine jKN_of (y := yX8_init) (cc := cX8_init) (nL := 2) (rm := ({ frames := 1, cells := 14, slots := jSl ftB ksK 211 - jSl ftB ksK 197, locals := 20 } : Room)) (own := RX8) (tyB_ok cy) had (XtB_ok ad xs L) Om_good (by decide) rfl rfl ?_
  intro post av M hF
  obtain ⟨rfl, hf, hF⟩ := hF
  refine ⟨Nat.le_of_ble_eq_true rfl, fun p e s m below meth c Qs hc hin2 hret => ?_⟩
  obtain ⟨hx, hb, hml, hown, hts, hK, hty, -, hgo, hXc, hXt, hs⟩ := id hc
  have hO := kj_ok (rm := ({ frames := 1, cells := 14, slots := jSl ftB ksK 211 - jSl ftB ksK 197, locals := 20 } : Room)) (ft := ftB) (Qs := Qs) (i := 0) (rk := 5) (post := fun _ _ => True) hc (by rw [lnK]; decide) (Nat.le_of_ble_eq_true rfl) (jSl_m (by decide)) (Or.inl rfl)
  refine j_aload_n hO dX8_init_0 rfl 0 rfl ?_
  refine kj_obj hx hb hml hts hown ⟨om_1723, om_1612, om_1613⟩ dX8_init_1 (Nat.le_of_ble_eq_true rfl) (Nat.le_of_ble_eq_true rfl) (Nat.le_of_ble_eq_true rfl) ?_
  refine j_aload_n hO dX8_init_4 rfl 0 rfl ?_
  refine j_aload_n hO dX8_init_5 rfl 1 rfl ?_
  refine kj_pq hx hb hts hK had hs hown hin2 (n0 := 197) (i := 0) (v := 8) (by rw [lnK]; decide) (by unfold ri_; omega) (tkk kK_196 (by decide)) fB_11_0 rfl ff_X8_9 dX8_init_6 (fun M1 e1 => ?_)
  subst e1
  have hf := jFr_up (c := 196) (i := 0) (v := ((8 : Nat) : Int)) hf (by decide)
  refine j_aload_n hO dX8_init_9 rfl 0 rfl ?_
  refine j_sipush hO dX8_init_10 (by decide) ?_
  refine kj_ai hx hb hts hK had hs hty.2.1 (n0 := 197) (i := 0) (N := 401) (n := 197) (i1 := 1) rfl rfl kK_197 rfl (by decide) om_1617 dX8_init_13 (Nat.le_of_ble_eq_true rfl) (jSl_m (by decide)) hf ?_
  have hf := jFr_w (n' := 198) hf (by decide)
  have hO := kj_ok (rm := ({ frames := 1, cells := 14, slots := jSl ftB ksK 211 - jSl ftB ksK 197, locals := 20 } : Room)) (ft := ftB) (Qs := Qs) (i := 1) (rk := 5) (post := fun _ _ => True) hc (by rw [lnK]; decide) (Nat.le_of_ble_eq_true rfl) (jSl_m (by decide)) (Or.inl rfl)
  refine kj_pqa hx hb hts hK had hs hown hin2 (n0 := 197) (i := 1) (v := 197) (by rw [lnK]; decide) (by unfold ri_; omega) (tkk kK_196 (by decide)) fB_11_2 rfl ff_X8_17 dX8_init_15 (fun M1 e1 => ?_)
  subst e1
  have hf := jFr_up (c := 196) (i := 2) (v := ((197 : Nat) : Int)) hf (by decide)
  refine j_aload_n hO dX8_init_18 rfl 0 rfl ?_
  refine j_sipush hO dX8_init_19 (by decide) ?_
  refine kj_ai hx hb hts hK had hs hty.2.1 (n0 := 197) (i := 1) (N := 4108) (n := 198) (i1 := 2) rfl rfl kK_198 rfl (by decide) om_1617 dX8_init_22 (Nat.le_of_ble_eq_true rfl) (jSl_m (by decide)) hf ?_
  have hf := jFr_w (n' := 199) hf (by decide)
  have hO := kj_ok (rm := ({ frames := 1, cells := 14, slots := jSl ftB ksK 211 - jSl ftB ksK 197, locals := 20 } : Room)) (ft := ftB) (Qs := Qs) (i := 2) (rk := 5) (post := fun _ _ => True) hc (by rw [lnK]; decide) (Nat.le_of_ble_eq_true rfl) (jSl_m (by decide)) (Or.inl rfl)
  refine kj_pqa hx hb hts hK had hs hown hin2 (n0 := 197) (i := 2) (v := 198) (by rw [lnK]; decide) (by unfold ri_; omega) (tkk kK_196 (by decide)) fB_11_3 rfl ff_X8_21 dX8_init_24 (fun M1 e1 => ?_)
  subst e1
  have hf := jFr_up (c := 196) (i := 3) (v := ((198 : Nat) : Int)) hf (by decide)
  refine j_aload_n hO dX8_init_27 rfl 0 rfl ?_
  refine j_sipush hO dX8_init_28 (by decide) ?_
  refine kj_ai hx hb hts hK had hs hty.2.1 (n0 := 197) (i := 2) (N := 4108) (n := 199) (i1 := 3) rfl rfl kK_199 rfl (by decide) om_1617 dX8_init_31 (Nat.le_of_ble_eq_true rfl) (jSl_m (by decide)) hf ?_
  have hf := jFr_w (n' := 200) hf (by decide)
  have hO := kj_ok (rm := ({ frames := 1, cells := 14, slots := jSl ftB ksK 211 - jSl ftB ksK 197, locals := 20 } : Room)) (ft := ftB) (Qs := Qs) (i := 3) (rk := 5) (post := fun _ _ => True) hc (by rw [lnK]; decide) (Nat.le_of_ble_eq_true rfl) (jSl_m (by decide)) (Or.inl rfl)
  refine kj_pqa hx hb hts hK had hs hown hin2 (n0 := 197) (i := 3) (v := 199) (by rw [lnK]; decide) (by unfold ri_; omega) (tkk kK_196 (by decide)) fB_11_4 rfl ff_X8_24 dX8_init_33 (fun M1 e1 => ?_)
  subst e1
  have hf := jFr_up (c := 196) (i := 4) (v := ((199 : Nat) : Int)) hf (by decide)
  refine j_aload_n hO dX8_init_36 rfl 0 rfl ?_
  refine j_sipush hO dX8_init_37 (by decide) ?_
  refine kj_ai hx hb hts hK had hs hty.2.1 (n0 := 197) (i := 3) (N := 400) (n := 200) (i1 := 4) rfl rfl kK_200 rfl (by decide) om_1617 dX8_init_40 (Nat.le_of_ble_eq_true rfl) (jSl_m (by decide)) hf ?_
  have hf := jFr_w (n' := 201) hf (by decide)
  have hO := kj_ok (rm := ({ frames := 1, cells := 14, slots := jSl ftB ksK 211 - jSl ftB ksK 197, locals := 20 } : Room)) (ft := ftB) (Qs := Qs) (i := 4) (rk := 5) (post := fun _ _ => True) hc (by rw [lnK]; decide) (Nat.le_of_ble_eq_true rfl) (jSl_m (by decide)) (Or.inl rfl)
  refine kj_pqa hx hb hts hK had hs hown hin2 (n0 := 197) (i := 4) (v := 200) (by rw [lnK]; decide) (by unfold ri_; omega) (tkk kK_196 (by decide)) fB_11_5 rfl ff_X8_27 dX8_init_42 (fun M1 e1 => ?_)
  subst e1
  have hf := jFr_up (c := 196) (i := 5) (v := ((200 : Nat) : Int)) hf (by decide)
  refine j_aload_n hO dX8_init_45 rfl 0 rfl ?_
  refine j_sipush hO dX8_init_46 (by decide) ?_
  refine kj_ai hx hb hts hK had hs hty.2.1 (n0 := 197) (i := 4) (N := 400) (n := 201) (i1 := 5) rfl rfl kK_201 rfl (by decide) om_1617 dX8_init_49 (Nat.le_of_ble_eq_true rfl) (jSl_m (by decide)) hf ?_
  have hf := jFr_w (n' := 202) hf (by decide)
  have hO := kj_ok (rm := ({ frames := 1, cells := 14, slots := jSl ftB ksK 211 - jSl ftB ksK 197, locals := 20 } : Room)) (ft := ftB) (Qs := Qs) (i := 5) (rk := 5) (post := fun _ _ => True) hc (by rw [lnK]; decide) (Nat.le_of_ble_eq_true rfl) (jSl_m (by decide)) (Or.inl rfl)
  refine kj_pqa hx hb hts hK had hs hown hin2 (n0 := 197) (i := 5) (v := 201) (by rw [lnK]; decide) (by unfold ri_; omega) (tkk kK_196 (by decide)) fB_11_6 rfl ff_X8_30 dX8_init_51 (fun M1 e1 => ?_)
  subst e1
  have hf := jFr_up (c := 196) (i := 6) (v := ((201 : Nat) : Int)) hf (by decide)
  refine j_aload_n hO dX8_init_54 rfl 0 rfl ?_
  refine j_sipush hO dX8_init_55 (by decide) ?_
  refine kj_ai hx hb hts hK had hs hty.2.1 (n0 := 197) (i := 5) (N := 400) (n := 202) (i1 := 6) rfl rfl kK_202 rfl (by decide) om_1617 dX8_init_58 (Nat.le_of_ble_eq_true rfl) (jSl_m (by decide)) hf ?_
  have hf := jFr_w (n' := 203) hf (by decide)
  have hO := kj_ok (rm := ({ frames := 1, cells := 14, slots := jSl ftB ksK 211 - jSl ftB ksK 197, locals := 20 } : Room)) (ft := ftB) (Qs := Qs) (i := 6) (rk := 5) (post := fun _ _ => True) hc (by rw [lnK]; decide) (Nat.le_of_ble_eq_true rfl) (jSl_m (by decide)) (Or.inl rfl)
  refine kj_pqa hx hb hts hK had hs hown hin2 (n0 := 197) (i := 6) (v := 202) (by rw [lnK]; decide) (by unfold ri_; omega) (tkk kK_196 (by decide)) fB_11_7 rfl ff_X8_33 dX8_init_60 (fun M1 e1 => ?_)
  subst e1
  have hf := jFr_up (c := 196) (i := 7) (v := ((202 : Nat) : Int)) hf (by decide)
  refine j_aload_n hO dX8_init_63 rfl 0 rfl ?_
  refine j_sipush hO dX8_init_64 (by decide) ?_
  refine kj_ai hx hb hts hK had hs hty.2.1 (n0 := 197) (i := 6) (N := 400) (n := 203) (i1 := 7) rfl rfl kK_203 rfl (by decide) om_1617 dX8_init_67 (Nat.le_of_ble_eq_true rfl) (jSl_m (by decide)) hf ?_
  have hf := jFr_w (n' := 204) hf (by decide)
  have hO := kj_ok (rm := ({ frames := 1, cells := 14, slots := jSl ftB ksK 211 - jSl ftB ksK 197, locals := 20 } : Room)) (ft := ftB) (Qs := Qs) (i := 7) (rk := 5) (post := fun _ _ => True) hc (by rw [lnK]; decide) (Nat.le_of_ble_eq_true rfl) (jSl_m (by decide)) (Or.inl rfl)
  refine kj_pqa hx hb hts hK had hs hown hin2 (n0 := 197) (i := 7) (v := 203) (by rw [lnK]; decide) (by unfold ri_; omega) (tkk kK_196 (by decide)) fB_11_8 rfl ff_X8_36 dX8_init_69 (fun M1 e1 => ?_)
  subst e1
  have hf := jFr_up (c := 196) (i := 8) (v := ((203 : Nat) : Int)) hf (by decide)
  refine j_aload_n hO dX8_init_72 rfl 0 rfl ?_
  refine j_sipush hO dX8_init_73 (by decide) ?_
  refine kj_ai hx hb hts hK had hs hty.2.1 (n0 := 197) (i := 7) (N := 400) (n := 204) (i1 := 8) rfl rfl kK_204 rfl (by decide) om_1617 dX8_init_76 (Nat.le_of_ble_eq_true rfl) (jSl_m (by decide)) hf ?_
  have hf := jFr_w (n' := 205) hf (by decide)
  have hO := kj_ok (rm := ({ frames := 1, cells := 14, slots := jSl ftB ksK 211 - jSl ftB ksK 197, locals := 20 } : Room)) (ft := ftB) (Qs := Qs) (i := 8) (rk := 5) (post := fun _ _ => True) hc (by rw [lnK]; decide) (Nat.le_of_ble_eq_true rfl) (jSl_m (by decide)) (Or.inl rfl)
  refine kj_pqa hx hb hts hK had hs hown hin2 (n0 := 197) (i := 8) (v := 204) (by rw [lnK]; decide) (by unfold ri_; omega) (tkk kK_196 (by decide)) fB_11_10 rfl ff_X8_39 dX8_init_78 (fun M1 e1 => ?_)
  subst e1
  have hf := jFr_up (c := 196) (i := 10) (v := ((204 : Nat) : Int)) hf (by decide)
  refine j_aload_n hO dX8_init_81 rfl 0 rfl ?_
  refine j_sipush hO dX8_init_82 (by decide) ?_
  refine kj_ai hx hb hts hK had hs hty.2.1 (n0 := 197) (i := 8) (N := 400) (n := 205) (i1 := 9) rfl rfl kK_205 rfl (by decide) om_1617 dX8_init_85 (Nat.le_of_ble_eq_true rfl) (jSl_m (by decide)) hf ?_
  have hf := jFr_w (n' := 206) hf (by decide)
  have hO := kj_ok (rm := ({ frames := 1, cells := 14, slots := jSl ftB ksK 211 - jSl ftB ksK 197, locals := 20 } : Room)) (ft := ftB) (Qs := Qs) (i := 9) (rk := 5) (post := fun _ _ => True) hc (by rw [lnK]; decide) (Nat.le_of_ble_eq_true rfl) (jSl_m (by decide)) (Or.inl rfl)
  refine kj_pqa hx hb hts hK had hs hown hin2 (n0 := 197) (i := 9) (v := 205) (by rw [lnK]; decide) (by unfold ri_; omega) (tkk kK_196 (by decide)) fB_11_12 rfl ff_X8_42 dX8_init_87 (fun M1 e1 => ?_)
  subst e1
  have hf := jFr_up (c := 196) (i := 12) (v := ((205 : Nat) : Int)) hf (by decide)
  refine j_aload_n hO dX8_init_90 rfl 0 rfl ?_
  refine j_sipush hO dX8_init_91 (by decide) ?_
  refine kj_ai hx hb hts hK had hs hty.2.1 (n0 := 197) (i := 9) (N := 400) (n := 206) (i1 := 10) rfl rfl kK_206 rfl (by decide) om_1617 dX8_init_94 (Nat.le_of_ble_eq_true rfl) (jSl_m (by decide)) hf ?_
  have hf := jFr_w (n' := 207) hf (by decide)
  have hO := kj_ok (rm := ({ frames := 1, cells := 14, slots := jSl ftB ksK 211 - jSl ftB ksK 197, locals := 20 } : Room)) (ft := ftB) (Qs := Qs) (i := 10) (rk := 5) (post := fun _ _ => True) hc (by rw [lnK]; decide) (Nat.le_of_ble_eq_true rfl) (jSl_m (by decide)) (Or.inl rfl)
  refine kj_pqa hx hb hts hK had hs hown hin2 (n0 := 197) (i := 10) (v := 206) (by rw [lnK]; decide) (by unfold ri_; omega) (tkk kK_196 (by decide)) fB_11_13 rfl ff_X8_45 dX8_init_96 (fun M1 e1 => ?_)
  subst e1
  have hf := jFr_up (c := 196) (i := 13) (v := ((206 : Nat) : Int)) hf (by decide)
  refine j_aload_n hO dX8_init_99 rfl 0 rfl ?_
  refine j_sipush hO dX8_init_100 (by decide) ?_
  refine kj_ai hx hb hts hK had hs hty.2.1 (n0 := 197) (i := 10) (N := 400) (n := 207) (i1 := 11) rfl rfl kK_207 rfl (by decide) om_1617 dX8_init_103 (Nat.le_of_ble_eq_true rfl) (jSl_m (by decide)) hf ?_
  have hf := jFr_w (n' := 208) hf (by decide)
  have hO := kj_ok (rm := ({ frames := 1, cells := 14, slots := jSl ftB ksK 211 - jSl ftB ksK 197, locals := 20 } : Room)) (ft := ftB) (Qs := Qs) (i := 11) (rk := 5) (post := fun _ _ => True) hc (by rw [lnK]; decide) (Nat.le_of_ble_eq_true rfl) (jSl_m (by decide)) (Or.inl rfl)
  refine kj_pqa hx hb hts hK had hs hown hin2 (n0 := 197) (i := 11) (v := 207) (by rw [lnK]; decide) (by unfold ri_; omega) (tkk kK_196 (by decide)) fB_11_14 rfl ff_X8_48 dX8_init_105 (fun M1 e1 => ?_)
  subst e1
  have hf := jFr_up (c := 196) (i := 14) (v := ((207 : Nat) : Int)) hf (by decide)
  refine j_aload_n hO dX8_init_108 rfl 0 rfl ?_
  refine j_sipush hO dX8_init_109 (by decide) ?_
  refine kj_ai hx hb hts hK had hs hty.2.1 (n0 := 197) (i := 11) (N := 400) (n := 208) (i1 := 12) rfl rfl kK_208 rfl (by decide) om_1617 dX8_init_112 (Nat.le_of_ble_eq_true rfl) (jSl_m (by decide)) hf ?_
  have hf := jFr_w (n' := 209) hf (by decide)
  have hO := kj_ok (rm := ({ frames := 1, cells := 14, slots := jSl ftB ksK 211 - jSl ftB ksK 197, locals := 20 } : Room)) (ft := ftB) (Qs := Qs) (i := 12) (rk := 5) (post := fun _ _ => True) hc (by rw [lnK]; decide) (Nat.le_of_ble_eq_true rfl) (jSl_m (by decide)) (Or.inl rfl)
  refine kj_pqa hx hb hts hK had hs hown hin2 (n0 := 197) (i := 12) (v := 208) (by rw [lnK]; decide) (by unfold ri_; omega) (tkk kK_196 (by decide)) fB_11_15 rfl ff_X8_51 dX8_init_114 (fun M1 e1 => ?_)
  subst e1
  have hf := jFr_up (c := 196) (i := 15) (v := ((208 : Nat) : Int)) hf (by decide)
  refine j_aload_n hO dX8_init_117 rfl 0 rfl ?_
  refine j_sipush hO dX8_init_118 (by decide) ?_
  refine kj_ai hx hb hts hK had hs hty.2.1 (n0 := 197) (i := 12) (N := 400) (n := 209) (i1 := 13) rfl rfl kK_209 rfl (by decide) om_1617 dX8_init_121 (Nat.le_of_ble_eq_true rfl) (jSl_m (by decide)) hf ?_
  have hf := jFr_w (n' := 210) hf (by decide)
  have hO := kj_ok (rm := ({ frames := 1, cells := 14, slots := jSl ftB ksK 211 - jSl ftB ksK 197, locals := 20 } : Room)) (ft := ftB) (Qs := Qs) (i := 13) (rk := 5) (post := fun _ _ => True) hc (by rw [lnK]; decide) (Nat.le_of_ble_eq_true rfl) (jSl_m (by decide)) (Or.inl rfl)
  refine kj_pqa hx hb hts hK had hs hown hin2 (n0 := 197) (i := 13) (v := 209) (by rw [lnK]; decide) (by unfold ri_; omega) (tkk kK_196 (by decide)) fB_11_16 rfl ff_X8_54 dX8_init_123 (fun M1 e1 => ?_)
  subst e1
  have hf := jFr_up (c := 196) (i := 16) (v := ((209 : Nat) : Int)) hf (by decide)
  refine j_aload_n hO dX8_init_126 rfl 0 rfl ?_
  refine j_sipush hO dX8_init_127 (by decide) ?_
  refine kj_ai hx hb hts hK had hs hty.2.1 (n0 := 197) (i := 13) (N := 512) (n := 210) (i1 := 14) rfl rfl kK_210 rfl (by decide) om_1617 dX8_init_130 (Nat.le_of_ble_eq_true rfl) (jSl_m (by decide)) hf ?_
  have hf := jFr_w (n' := 211) hf (by decide)
  have hO := kj_ok (rm := ({ frames := 1, cells := 14, slots := jSl ftB ksK 211 - jSl ftB ksK 197, locals := 20 } : Room)) (ft := ftB) (Qs := Qs) (i := 14) (rk := 5) (post := fun _ _ => True) hc (by rw [lnK]; decide) (Nat.le_of_ble_eq_true rfl) (jSl_m (by decide)) (Or.inl rfl)
  refine kj_pqa hx hb hts hK had hs hown hin2 (n0 := 197) (i := 14) (v := 210) (by rw [lnK]; decide) (by unfold ri_; omega) (tkk kK_196 (by decide)) fB_11_17 rfl ff_X8_57 dX8_init_132 (fun M1 e1 => ?_)
  subst e1
  have hf := jFr_up (c := 196) (i := 17) (v := ((210 : Nat) : Int)) hf (by decide)
  exact hret _ _ _ dX8_init_135 hF
