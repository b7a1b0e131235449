set_option maxHeartbeats 4000000 in
set_option maxRecDepth 100000 in
theorem c_X11_init_0 {l : Launch} {D : va_G} {cy : Nat → ClassId} {ad : Nat → Nat} {xs : Nat → Int} {L b0 : Nat} (had : ∀ k, k < ksK.length → ad k = b0 + k) : jKN l D vwCl (tyB cy) cy ad ftB ksK (XtB ad xs L) yX11_init (.code yX11_init cX11_init 2 none :: Om) ({ frames := 7, cells := 285, slots := jSl ftB ksK 286 - jSl ftB ksK 1, locals := 167 } : Room) b0 1 285 (W_X11_init_0 ad) := by
  refine jKN_of (y := yX11_init) (cc := cX11_init) (nL := 2) (rm := ({ frames := 7, cells := 285, slots := jSl ftB ksK 286 - jSl ftB ksK 1, locals := 167 } : Room)) (own := RX11) (tyB_ok cy) had (XtB_ok ad xs L) Om_good (by decide) rfl rfl ?_
  intro post av M hF
  obtain ⟨rfl, hf, hF⟩ := hF
  refine ⟨Nat.le_of_ble_eq_true rfl, fun p e s m below meth c Qs hc hin2 hret => ?_⟩
  obtain ⟨hx, hb, hml, hown, hts, hK, hty, -, hgo, hXc, hXt, hs⟩ := id hc
  have hO := kj_ok (rm := ({ frames := 7, cells := 285, slots := jSl ftB ksK 286 - jSl ftB ksK 1, locals := 167 } : Room)) (ft := ftB) (Qs := Qs) (i := 0) (rk := 5) (post := fun _ _ => True) hc (by rw [lnK]; decide) (Nat.le_of_ble_eq_true rfl) (jSl_m (by decide)) (Or.inl rfl)
  refine j_aload_n hO dX11_init_0 rfl 0 rfl ?_
  refine kj_obj hx hb hml hts hown ⟨om_1611, om_1612, om_1613⟩ dX11_init_1 (Nat.le_of_ble_eq_true rfl) (Nat.le_of_ble_eq_true rfl) (Nat.le_of_ble_eq_true rfl) ?_
  refine j_aload_n hO dX11_init_4 rfl 0 rfl ?_
  refine kj_new hx hb hts hK had hs hown (n0 := 1) (i := 0) (n := 1) (i1 := 1) rfl rfl kK_1 nc_X11_9 dX11_init_5 (Nat.le_of_ble_eq_true rfl) (jSl_m (by decide)) hf ?_
  have hf := jFr_w (n' := 2) hf (by decide)
  have hO := kj_ok (rm := ({ frames := 7, cells := 285, slots := jSl ftB ksK 286 - jSl ftB ksK 1, locals := 167 } : Room)) (ft := ftB) (Qs := Qs) (i := 1) (rk := 5) (post := fun _ _ => True) hc (by rw [lnK]; decide) (Nat.le_of_ble_eq_true rfl) (jSl_m (by decide)) (Or.inl rfl)
  refine j_dup hO dX11_init_8 rfl ?_
  refine kj_call hx hb hts hK had hs hml hown hgo hXc hXt (n0 := 1) (i := 1) (nn := 2) (i2 := 7) (c0 := 1) rfl rfl (c_X9_init_1 (l := l) (D := D) (cy := cy) (xs := xs) (L := L) had) rfl om_1636 ⟨rfl, rfl, Nat.le_of_ble_eq_true rfl, Nat.le_of_ble_eq_true rfl⟩ [] ⟨om_1637, om_1638, om_531⟩ rfl hd_X9_init rfl (Nat.le_of_ble_eq_true rfl) dX11_init_9 (by rw [lnK]; decide) (Nat.le_of_ble_eq_true rfl) (jSl_m (by decide)) (P := fun M1 => M1 = T_X9_init_1 _) ⟨rfl, hf, rfl⟩ (fun M1 e1 => ?_)
  subst e1
  have hf := fr_X9_init_1 (n := 8) (by decide) (jFr_w (n' := 8) hf (by decide))
  have hO := kj_ok (rm := ({ frames := 7, cells := 285, slots := jSl ftB ksK 286 - jSl ftB ksK 1, locals := 167 } : Room)) (ft := ftB) (Qs := Qs) (i := 7) (rk := 5) (post := fun _ _ => True) hc (by rw [lnK]; decide) (Nat.le_of_ble_eq_true rfl) (jSl_m (by decide)) (Or.inl rfl)
  refine kj_pq hx hb hts hK had hs hown hin2 (n0 := 1) (i := 7) (v := 1) (by rw [lnK]; decide) (by unfold ri_; omega) (tkk kK_0 (by decide)) fB_14_0 rfl ff_X11_12 dX11_init_12 (fun M1 e1 => ?_)
  subst e1
  have hf := jFr_up (c := 0) (i := 0) (v := ((1 : Nat) : Int)) hf (by decide)
  refine j_aload_n hO dX11_init_15 rfl 0 rfl ?_
  refine kj_new hx hb hts hK had hs hown (n0 := 1) (i := 7) (n := 8) (i1 := 8) rfl rfl kK_8 nc_X11_16 dX11_init_16 (Nat.le_of_ble_eq_true rfl) (jSl_m (by decide)) hf ?_
  have hf := jFr_w (n' := 9) hf (by decide)
  have hO := kj_ok (rm := ({ frames := 7, cells := 285, slots := jSl ftB ksK 286 - jSl ftB ksK 1, locals := 167 } : Room)) (ft := ftB) (Qs := Qs) (i := 8) (rk := 5) (post := fun _ _ => True) hc (by rw [lnK]; decide) (Nat.le_of_ble_eq_true rfl) (jSl_m (by decide)) (Or.inl rfl)
  refine j_dup hO dX11_init_19 rfl ?_
  refine kj_call hx hb hts hK had hs hml hown hgo hXc hXt (n0 := 1) (i := 8) (nn := 9) (i2 := 25) (c0 := 8) rfl rfl (c_X10_init_8 (l := l) (D := D) (cy := cy) (xs := xs) (L := L) had) rfl om_1661 ⟨rfl, rfl, Nat.le_of_ble_eq_true rfl, Nat.le_of_ble_eq_true rfl⟩ [] ⟨om_1662, om_1663, om_42⟩ rfl hd_X10_init rfl (Nat.le_of_ble_eq_true rfl) dX11_init_20 (by rw [lnK]; decide) (Nat.le_of_ble_eq_true rfl) (jSl_m (by decide)) (P := fun M1 => M1 = T_X10_init_8 _) ⟨rfl, hf, rfl⟩ (fun M1 e1 => ?_)
  subst e1
  have hf := fr_X10_init_8 (n := 26) (by decide) (jFr_w (n' := 26) hf (by decide))
  have hO := kj_ok (rm := ({ frames := 7, cells := 285, slots := jSl ftB ksK 286 - jSl ftB ksK 1, locals := 167 } : Room)) (ft := ftB) (Qs := Qs) (i := 25) (rk := 5) (post := fun _ _ => True) hc (by rw [lnK]; decide) (Nat.le_of_ble_eq_true rfl) (jSl_m (by decide)) (Or.inl rfl)
  refine kj_pq hx hb hts hK had hs hown hin2 (n0 := 1) (i := 25) (v := 8) (by rw [lnK]; decide) (by unfold ri_; omega) (tkk kK_0 (by decide)) fB_14_1 rfl ff_X11_19 dX11_init_23 (fun M1 e1 => ?_)
  subst e1
  have hf := jFr_up (c := 0) (i := 1) (v := ((8 : Nat) : Int)) hf (by decide)
  refine j_aload_n hO dX11_init_26 rfl 0 rfl ?_
  refine kj_new hx hb hts hK had hs hown (n0 := 1) (i := 25) (n := 26) (i1 := 26) rfl rfl kK_26 nc_X11_23 dX11_init_27 (Nat.le_of_ble_eq_true rfl) (jSl_m (by decide)) hf ?_
  have hf := jFr_w (n' := 27) hf (by decide)
  have hO := kj_ok (rm := ({ frames := 7, cells := 285, slots := jSl ftB ksK 286 - jSl ftB ksK 1, locals := 167 } : Room)) (ft := ftB) (Qs := Qs) (i := 26) (rk := 5) (post := fun _ _ => True) hc (by rw [lnK]; decide) (Nat.le_of_ble_eq_true rfl) (jSl_m (by decide)) (Or.inl rfl)
  refine j_dup hO dX11_init_30 rfl ?_
  refine j_aload_n hO dX11_init_31 rfl 0 rfl ?_
  refine j_gq (v := 8) hO (tkk kK_0 (by decide)) fB_14_1 rfl fl_X11_19 dX11_init_32 (by rfl) ?_
  refine kj_call hx hb hts hK had hs hml hown hgo hXc hXt (n0 := 1) (i := 26) (nn := 27) (i2 := 35) (c0 := 26) rfl rfl (c_X2_init_26 (l := l) (D := D) (cy := cy) (xs := xs) (L := L) had) rfl om_1678 ⟨rfl, rfl, Nat.le_of_ble_eq_true rfl, Nat.le_of_ble_eq_true rfl⟩ [.ref (ad 8)] ⟨om_1679, om_1680, om_181⟩ rfl hd_X2_init rfl (Nat.le_of_ble_eq_true rfl) dX11_init_35 (by rw [lnK]; decide) (Nat.le_of_ble_eq_true rfl) (jSl_m (by decide)) (P := fun M1 => M1 = T_X2_init_26 _) ⟨rfl, hf, rfl⟩ (fun M1 e1 => ?_)
  subst e1
  have hf := fr_X2_init_26 (n := 36) (by decide) (jFr_w (n' := 36) hf (by decide))
  have hO := kj_ok (rm := ({ frames := 7, cells := 285, slots := jSl ftB ksK 286 - jSl ftB ksK 1, locals := 167 } : Room)) (ft := ftB) (Qs := Qs) (i := 35) (rk := 5) (post := fun _ _ => True) hc (by rw [lnK]; decide) (Nat.le_of_ble_eq_true rfl) (jSl_m (by decide)) (Or.inl rfl)
  refine kj_pq hx hb hts hK had hs hown hin2 (n0 := 1) (i := 35) (v := 26) (by rw [lnK]; decide) (by unfold ri_; omega) (tkk kK_0 (by decide)) fB_14_2 rfl ff_X11_28 dX11_init_38 (fun M1 e1 => ?_)
  subst e1
  have hf := jFr_up (c := 0) (i := 2) (v := ((26 : Nat) : Int)) hf (by decide)
  refine j_aload_n hO dX11_init_41 rfl 0 rfl ?_
  refine kj_new hx hb hts hK had hs hown (n0 := 1) (i := 35) (n := 36) (i1 := 36) rfl rfl kK_36 nc_X11_32 dX11_init_42 (Nat.le_of_ble_eq_true rfl) (jSl_m (by decide)) hf ?_
  have hf := jFr_w (n' := 37) hf (by decide)
  have hO := kj_ok (rm := ({ frames := 7, cells := 285, slots := jSl ftB ksK 286 - jSl ftB ksK 1, locals := 167 } : Room)) (ft := ftB) (Qs := Qs) (i := 36) (rk := 5) (post := fun _ _ => True) hc (by rw [lnK]; decide) (Nat.le_of_ble_eq_true rfl) (jSl_m (by decide)) (Or.inl rfl)
  refine j_dup hO dX11_init_45 rfl ?_
  refine j_aload_n hO dX11_init_46 rfl 0 rfl ?_
  refine j_gq (v := 8) hO (tkk kK_0 (by decide)) fB_14_1 rfl fl_X11_19 dX11_init_47 (by rfl) ?_
  refine kj_call hx hb hts hK had hs hml hown hgo hXc hXt (n0 := 1) (i := 36) (nn := 37) (i2 := 44) (c0 := 36) rfl rfl (c_X3_init_36 (l := l) (D := D) (cy := cy) (xs := xs) (L := L) had) rfl om_1694 ⟨rfl, rfl, Nat.le_of_ble_eq_true rfl, Nat.le_of_ble_eq_true rfl⟩ [.ref (ad 8)] ⟨om_1695, om_1696, om_261⟩ rfl hd_X3_init rfl (Nat.le_of_ble_eq_true rfl) dX11_init_50 (by rw [lnK]; decide) (Nat.le_of_ble_eq_true rfl) (jSl_m (by decide)) (P := fun M1 => M1 = T_X3_init_36 _) ⟨rfl, hf, rfl⟩ (fun M1 e1 => ?_)
  subst e1
  have hf := fr_X3_init_36 (n := 45) (by decide) (jFr_w (n' := 45) hf (by decide))
  have hO := kj_ok (rm := ({ frames := 7, cells := 285, slots := jSl ftB ksK 286 - jSl ftB ksK 1, locals := 167 } : Room)) (ft := ftB) (Qs := Qs) (i := 44) (rk := 5) (post := fun _ _ => True) hc (by rw [lnK]; decide) (Nat.le_of_ble_eq_true rfl) (jSl_m (by decide)) (Or.inl rfl)
  refine kj_pq hx hb hts hK had hs hown hin2 (n0 := 1) (i := 44) (v := 36) (by rw [lnK]; decide) (by unfold ri_; omega) (tkk kK_0 (by decide)) fB_14_3 rfl ff_X11_35 dX11_init_53 (fun M1 e1 => ?_)
  subst e1
  have hf := jFr_up (c := 0) (i := 3) (v := ((36 : Nat) : Int)) hf (by decide)
  refine j_aload_n hO dX11_init_56 rfl 0 rfl ?_
  refine j_iconst hO dX11_init_57 ?_
  refine kj_q4 hx hb hts hK had hs hown hXt.2.2.2.2.2.2.1 rfl (n0 := 1) (i := 44) (N := 4) (n := 45) (i1 := 45) rfl rfl kK_45 rfl (by decide) om_1698 dX11_init_58 (Nat.le_of_ble_eq_true rfl) (jSl_m (by decide)) hf ?_
  have hf := jFr_w (n' := 46) hf (by decide)
  have hO := kj_ok (rm := ({ frames := 7, cells := 285, slots := jSl ftB ksK 286 - jSl ftB ksK 1, locals := 167 } : Room)) (ft := ftB) (Qs := Qs) (i := 45) (rk := 5) (post := fun _ _ => True) hc (by rw [lnK]; decide) (Nat.le_of_ble_eq_true rfl) (jSl_m (by decide)) (Or.inl rfl)
  refine kj_pqa hx hb hts hK had hs hown hin2 (n0 := 1) (i := 45) (v := 45) (by rw [lnK]; decide) (by unfold ri_; omega) (tkk kK_0 (by decide)) fB_14_4 rfl ff_X11_41 dX11_init_61 (fun M1 e1 => ?_)
  subst e1
  have hf := jFr_up (c := 0) (i := 4) (v := ((45 : Nat) : Int)) hf (by decide)
  refine j_iconst hO dX11_init_64 ?_
  refine j_istore_n (lv' := [(1, .int (Ii 0)), (0, .ref (ad 0))]) hO dX11_init_65 rfl (by decide) rfl ?_
  refine j_iload_n hO dX11_init_66 rfl 0 rfl ?_
  refine j_iconst hO dX11_init_67 ?_
  refine j_icmp_ge hO 94 rk_0 rk_4 dX11_init_68 (by decide) (fun z => absurd z (by decide)) (fun _ => ?_)
  refine j_aload_n hO dX11_init_71 rfl 1 rfl ?_
  refine j_gq (v := 45) hO (tkk kK_0 (by decide)) fB_14_4 rfl fl_X11_41 dX11_init_72 (by rfl) ?_
  refine j_iload_n hO dX11_init_75 rfl 0 rfl ?_
  refine kj_new hx hb hts hK had hs hown (n0 := 1) (i := 45) (n := 46) (i1 := 46) rfl rfl kK_46 nc_X11_39 dX11_init_76 (Nat.le_of_ble_eq_true rfl) (jSl_m (by decide)) hf ?_
  have hf := jFr_w (n' := 47) hf (by decide)
  have hO := kj_ok (rm := ({ frames := 7, cells := 285, slots := jSl ftB ksK 286 - jSl ftB ksK 1, locals := 167 } : Room)) (ft := ftB) (Qs := Qs) (i := 46) (rk := 5) (post := fun _ _ => True) hc (by rw [lnK]; decide) (Nat.le_of_ble_eq_true rfl) (jSl_m (by decide)) (Or.inl rfl)
  refine j_dup hO dX11_init_79 rfl ?_
  refine j_aload_n hO dX11_init_80 rfl 1 rfl ?_
  refine j_gq (v := 8) hO (tkk kK_0 (by decide)) fB_14_1 rfl fl_X11_19 dX11_init_81 (by rfl) ?_
  refine kj_call hx hb hts hK had hs hml hown hgo hXc hXt (n0 := 1) (i := 46) (nn := 47) (i2 := 78) (c0 := 46) rfl rfl (c_X5_init_46 (l := l) (D := D) (cy := cy) (xs := xs) (L := L) had) rfl om_1743 ⟨rfl, rfl, Nat.le_of_ble_eq_true rfl, Nat.le_of_ble_eq_true rfl⟩ [.ref (ad 8)] ⟨om_1744, om_1745, om_22⟩ rfl hd_X5_init rfl (Nat.le_of_ble_eq_true rfl) dX11_init_84 (by rw [lnK]; decide) (Nat.le_of_ble_eq_true rfl) (jSl_m (by decide)) (P := fun M1 => M1 = T_X5_init_46 _) ⟨rfl, hf, rfl⟩ (fun M1 e1 => ?_)
  subst e1
  have hf := fr_X5_init_46 (n := 79) (by decide) (jFr_w (n' := 79) hf (by decide))
  have hO := kj_ok (rm := ({ frames := 7, cells := 285, slots := jSl ftB ksK 286 - jSl ftB ksK 1, locals := 167 } : Room)) (ft := ftB) (Qs := Qs) (i := 78) (rk := 5) (post := fun _ _ => True) hc (by rw [lnK]; decide) (Nat.le_of_ble_eq_true rfl) (jSl_m (by decide)) (Or.inl rfl)
  refine j_aast4 (v := 46) hO rk_0 (by unfold ri_; omega) (tkk kK_45 (by decide)) (tkk kK_46 (by decide)) rfl rfl (by decide) (by decide) dX11_init_87 (fun M1 e1 => ?_)
  subst e1
  have hf := jFr_up (c := 45) (i := 0) (v := ((46 : Nat) : Int)) hf (by decide)
  refine j_iinc (lv' := [(1, .int (Ii (0 + 1))), (0, .ref (ad 0))]) (k := 0) hO dX11_init_88 rfl (by decide) rfl ?_
  refine j_goto hO 66 dX11_init_91 (by decide) ?_
  refine j_iload_n hO dX11_init_66 rfl 0 rfl ?_
  refine j_iconst hO dX11_init_67 ?_
  refine j_icmp_ge hO 94 (by unfold ri_; omega) rk_4 dX11_init_68 (by decide) (fun z => absurd z (by decide)) (fun _ => ?_)
  refine j_aload_n hO dX11_init_71 rfl 1 rfl ?_
  refine j_gq (v := 45) hO (tkk kK_0 (by decide)) fB_14_4 rfl fl_X11_41 dX11_init_72 (by rfl) ?_
  refine j_iload_n hO dX11_init_75 rfl 0 rfl ?_
  refine kj_new hx hb hts hK had hs hown (n0 := 1) (i := 78) (n := 79) (i1 := 79) rfl rfl kK_79 nc_X11_39 dX11_init_76 (Nat.le_of_ble_eq_true rfl) (jSl_m (by decide)) hf ?_
  have hf := jFr_w (n' := 80) hf (by decide)
  have hO := kj_ok (rm := ({ frames := 7, cells := 285, slots := jSl ftB ksK 286 - jSl ftB ksK 1, locals := 167 } : Room)) (ft := ftB) (Qs := Qs) (i := 79) (rk := 5) (post := fun _ _ => True) hc (by rw [lnK]; decide) (Nat.le_of_ble_eq_true rfl) (jSl_m (by decide)) (Or.inl rfl)
  refine j_dup hO dX11_init_79 rfl ?_
  refine j_aload_n hO dX11_init_80 rfl 1 rfl ?_
  refine j_gq (v := 8) hO (tkk kK_0 (by decide)) fB_14_1 rfl fl_X11_19 dX11_init_81 (by rfl) ?_
  refine kj_call hx hb hts hK had hs hml hown hgo hXc hXt (n0 := 1) (i := 79) (nn := 80) (i2 := 111) (c0 := 79) rfl rfl (c_X5_init_79 (l := l) (D := D) (cy := cy) (xs := xs) (L := L) had) rfl om_1743 ⟨rfl, rfl, Nat.le_of_ble_eq_true rfl, Nat.le_of_ble_eq_true rfl⟩ [.ref (ad 8)] ⟨om_1744, om_1745, om_22⟩ rfl hd_X5_init rfl (Nat.le_of_ble_eq_true rfl) dX11_init_84 (by rw [lnK]; decide) (Nat.le_of_ble_eq_true rfl) (jSl_m (by decide)) (P := fun M1 => M1 = T_X5_init_79 _) ⟨rfl, hf, rfl⟩ (fun M1 e1 => ?_)
  subst e1
  have hf := fr_X5_init_79 (n := 112) (by decide) (jFr_w (n' := 112) hf (by decide))
  have hO := kj_ok (rm := ({ frames := 7, cells := 285, slots := jSl ftB ksK 286 - jSl ftB ksK 1, locals := 167 } : Room)) (ft := ftB) (Qs := Qs) (i := 111) (rk := 5) (post := fun _ _ => True) hc (by rw [lnK]; decide) (Nat.le_of_ble_eq_true rfl) (jSl_m (by decide)) (Or.inl rfl)
  refine j_aast4 (v := 79) hO (by unfold ri_; omega) (by unfold ri_; omega) (tkk kK_45 (by decide)) (tkk kK_79 (by decide)) rfl rfl (by decide) (by decide) dX11_init_87 (fun M1 e1 => ?_)
  subst e1
  have hf := jFr_up (c := 45) (i := (0 + 1)) (v := ((79 : Nat) : Int)) hf (by decide)
  refine j_iinc (lv' := [(1, .int (Ii ((0 + 1) + 1))), (0, .ref (ad 0))]) (k := 0) hO dX11_init_88 rfl (by decide) rfl ?_
  refine j_goto hO 66 dX11_init_91 (by decide) ?_
  refine j_iload_n hO dX11_init_66 rfl 0 rfl ?_
  refine j_iconst hO dX11_init_67 ?_
  refine j_icmp_ge hO 94 (by unfold ri_; omega) rk_4 dX11_init_68 (by decide) (fun z => absurd z (by decide)) (fun _ => ?_)
  refine j_aload_n hO dX11_init_71 rfl 1 rfl ?_
  refine j_gq (v := 45) hO (tkk kK_0 (by decide)) fB_14_4 rfl fl_X11_41 dX11_init_72 (by rfl) ?_
  refine j_iload_n hO dX11_init_75 rfl 0 rfl ?_
  refine kj_new hx hb hts hK had hs hown (n0 := 1) (i := 111) (n := 112) (i1 := 112) rfl rfl kK_112 nc_X11_39 dX11_init_76 (Nat.le_of_ble_eq_true rfl) (jSl_m (by decide)) hf ?_
  have hf := jFr_w (n' := 113) hf (by decide)
  have hO := kj_ok (rm := ({ frames := 7, cells := 285, slots := jSl ftB ksK 286 - jSl ftB ksK 1, locals := 167 } : Room)) (ft := ftB) (Qs := Qs) (i := 112) (rk := 5) (post := fun _ _ => True) hc (by rw [lnK]; decide) (Nat.le_of_ble_eq_true rfl) (jSl_m (by decide)) (Or.inl rfl)
  refine j_dup hO dX11_init_79 rfl ?_
  refine j_aload_n hO dX11_init_80 rfl 1 rfl ?_
  refine j_gq (v := 8) hO (tkk kK_0 (by decide)) fB_14_1 rfl fl_X11_19 dX11_init_81 (by rfl) ?_
  refine kj_call hx hb hts hK had hs hml hown hgo hXc hXt (n0 := 1) (i := 112) (nn := 113) (i2 := 144) (c0 := 112) rfl rfl (c_X5_init_112 (l := l) (D := D) (cy := cy) (xs := xs) (L := L) had) rfl om_1743 ⟨rfl, rfl, Nat.le_of_ble_eq_true rfl, Nat.le_of_ble_eq_true rfl⟩ [.ref (ad 8)] ⟨om_1744, om_1745, om_22⟩ rfl hd_X5_init rfl (Nat.le_of_ble_eq_true rfl) dX11_init_84 (by rw [lnK]; decide) (Nat.le_of_ble_eq_true rfl) (jSl_m (by decide)) (P := fun M1 => M1 = T_X5_init_112 _) ⟨rfl, hf, rfl⟩ (fun M1 e1 => ?_)
  subst e1
  have hf := fr_X5_init_112 (n := 145) (by decide) (jFr_w (n' := 145) hf (by decide))
  have hO := kj_ok (rm := ({ frames := 7, cells := 285, slots := jSl ftB ksK 286 - jSl ftB ksK 1, locals := 167 } : Room)) (ft := ftB) (Qs := Qs) (i := 144) (rk := 5) (post := fun _ _ => True) hc (by rw [lnK]; decide) (Nat.le_of_ble_eq_true rfl) (jSl_m (by decide)) (Or.inl rfl)
  refine j_aast4 (v := 112) hO (by unfold ri_; omega) (by unfold ri_; omega) (tkk kK_45 (by decide)) (tkk kK_112 (by decide)) rfl rfl (by decide) (by decide) dX11_init_87 (fun M1 e1 => ?_)
  subst e1
  have hf := jFr_up (c := 45) (i := ((0 + 1) + 1)) (v := ((112 : Nat) : Int)) hf (by decide)
  refine j_iinc (lv' := [(1, .int (Ii (((0 + 1) + 1) + 1))), (0, .ref (ad 0))]) (k := 0) hO dX11_init_88 rfl (by decide) rfl ?_
  refine j_goto hO 66 dX11_init_91 (by decide) ?_
  refine j_iload_n hO dX11_init_66 rfl 0 rfl ?_
  refine j_iconst hO dX11_init_67 ?_
  refine j_icmp_ge hO 94 (by unfold ri_; omega) rk_4 dX11_init_68 (by decide) (fun z => absurd z (by decide)) (fun _ => ?_)
  refine j_aload_n hO dX11_init_71 rfl 1 rfl ?_
  refine j_gq (v := 45) hO (tkk kK_0 (by decide)) fB_14_4 rfl fl_X11_41 dX11_init_72 (by rfl) ?_
  refine j_iload_n hO dX11_init_75 rfl 0 rfl ?_
  refine kj_new hx hb hts hK had hs hown (n0 := 1) (i := 144) (n := 145) (i1 := 145) rfl rfl kK_145 nc_X11_39 dX11_init_76 (Nat.le_of_ble_eq_true rfl) (jSl_m (by decide)) hf ?_
  have hf := jFr_w (n' := 146) hf (by decide)
  have hO := kj_ok (rm := ({ frames := 7, cells := 285, slots := jSl ftB ksK 286 - jSl ftB ksK 1, locals := 167 } : Room)) (ft := ftB) (Qs := Qs) (i := 145) (rk := 5) (post := fun _ _ => True) hc (by rw [lnK]; decide) (Nat.le_of_ble_eq_true rfl) (jSl_m (by decide)) (Or.inl rfl)
  refine j_dup hO dX11_init_79 rfl ?_
  refine j_aload_n hO dX11_init_80 rfl 1 rfl ?_
  refine j_gq (v := 8) hO (tkk kK_0 (by decide)) fB_14_1 rfl fl_X11_19 dX11_init_81 (by rfl) ?_
  refine kj_call hx hb hts hK had hs hml hown hgo hXc hXt (n0 := 1) (i := 145) (nn := 146) (i2 := 177) (c0 := 145) rfl rfl (c_X5_init_145 (l := l) (D := D) (cy := cy) (xs := xs) (L := L) had) rfl om_1743 ⟨rfl, rfl, Nat.le_of_ble_eq_true rfl, Nat.le_of_ble_eq_true rfl⟩ [.ref (ad 8)] ⟨om_1744, om_1745, om_22⟩ rfl hd_X5_init rfl (Nat.le_of_ble_eq_true rfl) dX11_init_84 (by rw [lnK]; decide) (Nat.le_of_ble_eq_true rfl) (jSl_m (by decide)) (P := fun M1 => M1 = T_X5_init_145 _) ⟨rfl, hf, rfl⟩ (fun M1 e1 => ?_)
  subst e1
  have hf := fr_X5_init_145 (n := 178) (by decide) (jFr_w (n' := 178) hf (by decide))
  have hO := kj_ok (rm := ({ frames := 7, cells := 285, slots := jSl ftB ksK 286 - jSl ftB ksK 1, locals := 167 } : Room)) (ft := ftB) (Qs := Qs) (i := 177) (rk := 5) (post := fun _ _ => True) hc (by rw [lnK]; decide) (Nat.le_of_ble_eq_true rfl) (jSl_m (by decide)) (Or.inl rfl)
  refine j_aast4 (v := 145) hO (by unfold ri_; omega) (by unfold ri_; omega) (tkk kK_45 (by decide)) (tkk kK_145 (by decide)) rfl rfl (by decide) (by decide) dX11_init_87 (fun M1 e1 => ?_)
  subst e1
  have hf := jFr_up (c := 45) (i := (((0 + 1) + 1) + 1)) (v := ((145 : Nat) : Int)) hf (by decide)
  refine j_iinc (lv' := [(1, .int (Ii ((((0 + 1) + 1) + 1) + 1))), (0, .ref (ad 0))]) (k := 0) hO dX11_init_88 rfl (by decide) rfl ?_
  refine j_goto hO 66 dX11_init_91 (by decide) ?_
  refine j_iload_n hO dX11_init_66 rfl 0 rfl ?_
  refine j_iconst hO dX11_init_67 ?_
  refine j_icmp_ge hO 94 (by unfold ri_; omega) rk_4 dX11_init_68 (by decide) (fun _ => ?_) (fun z => absurd z (by decide))
  refine j_aload_n hO dX11_init_94 rfl 1 rfl ?_
  refine kj_new hx hb hts hK had hs hown (n0 := 1) (i := 177) (n := 178) (i1 := 178) rfl rfl kK_178 nc_X11_39 dX11_init_95 (Nat.le_of_ble_eq_true rfl) (jSl_m (by decide)) hf ?_
  have hf := jFr_w (n' := 179) hf (by decide)
  have hO := kj_ok (rm := ({ frames := 7, cells := 285, slots := jSl ftB ksK 286 - jSl ftB ksK 1, locals := 167 } : Room)) (ft := ftB) (Qs := Qs) (i := 178) (rk := 5) (post := fun _ _ => True) hc (by rw [lnK]; decide) (Nat.le_of_ble_eq_true rfl) (jSl_m (by decide)) (Or.inl rfl)
  refine j_dup hO dX11_init_98 rfl ?_
  refine j_aload_n hO dX11_init_99 rfl 1 rfl ?_
  refine j_gq (v := 8) hO (tkk kK_0 (by decide)) fB_14_1 rfl fl_X11_19 dX11_init_100 (by rfl) ?_
  refine kj_call hx hb hts hK had hs hml hown hgo hXc hXt (n0 := 1) (i := 178) (nn := 179) (i2 := 210) (c0 := 178) rfl rfl (c_X5_init_178 (l := l) (D := D) (cy := cy) (xs := xs) (L := L) had) rfl om_1743 ⟨rfl, rfl, Nat.le_of_ble_eq_true rfl, Nat.le_of_ble_eq_true rfl⟩ [.ref (ad 8)] ⟨om_1744, om_1745, om_22⟩ rfl hd_X5_init rfl (Nat.le_of_ble_eq_true rfl) dX11_init_103 (by rw [lnK]; decide) (Nat.le_of_ble_eq_true rfl) (jSl_m (by decide)) (P := fun M1 => M1 = T_X5_init_178 _) ⟨rfl, hf, rfl⟩ (fun M1 e1 => ?_)
  subst e1
  have hf := fr_X5_init_178 (n := 211) (by decide) (jFr_w (n' := 211) hf (by decide))
  have hO := kj_ok (rm := ({ frames := 7, cells := 285, slots := jSl ftB ksK 286 - jSl ftB ksK 1, locals := 167 } : Room)) (ft := ftB) (Qs := Qs) (i := 210) (rk := 5) (post := fun _ _ => True) hc (by rw [lnK]; decide) (Nat.le_of_ble_eq_true rfl) (jSl_m (by decide)) (Or.inl rfl)
  refine j_pq (v := 178) hO (by unfold ri_; omega) (tkk kK_0 (by decide)) fB_14_5 rfl fp_X11_46 dX11_init_106 (fun M1 e1 => ?_)
  subst e1
  have hf := jFr_up (c := 0) (i := 5) (v := ((178 : Nat) : Int)) hf (by decide)
  refine j_aload_n hO dX11_init_109 rfl 1 rfl ?_
  refine kj_new hx hb hts hK had hs hown (n0 := 1) (i := 210) (n := 211) (i1 := 211) rfl rfl kK_211 nc_X11_50 dX11_init_110 (Nat.le_of_ble_eq_true rfl) (jSl_m (by decide)) hf ?_
  have hf := jFr_w (n' := 212) hf (by decide)
  have hO := kj_ok (rm := ({ frames := 7, cells := 285, slots := jSl ftB ksK 286 - jSl ftB ksK 1, locals := 167 } : Room)) (ft := ftB) (Qs := Qs) (i := 211) (rk := 5) (post := fun _ _ => True) hc (by rw [lnK]; decide) (Nat.le_of_ble_eq_true rfl) (jSl_m (by decide)) (Or.inl rfl)
  refine j_dup hO dX11_init_113 rfl ?_
  refine j_aload_n hO dX11_init_114 rfl 1 rfl ?_
  refine j_gq (v := 1) hO (tkk kK_0 (by decide)) fB_14_0 rfl fl_X11_12 dX11_init_115 (by rfl) ?_
  refine kj_call hx hb hts hK had hs hml hown hgo hXc hXt (n0 := 1) (i := 211) (nn := 212) (i2 := 218) (c0 := 211) rfl rfl (c_X6_init_211 (l := l) (D := D) (cy := cy) (xs := xs) (L := L) had) rfl om_1758 ⟨rfl, rfl, Nat.le_of_ble_eq_true rfl, Nat.le_of_ble_eq_true rfl⟩ [.ref (ad 1)] ⟨om_1759, om_1760, om_609⟩ rfl hd_X6_init rfl (Nat.le_of_ble_eq_true rfl) dX11_init_118 (by rw [lnK]; decide) (Nat.le_of_ble_eq_true rfl) (jSl_m (by decide)) (P := fun M1 => M1 = T_X6_init_211 _) ⟨rfl, hf, rfl⟩ (fun M1 e1 => ?_)
  subst e1
  have hf := fr_X6_init_211 (n := 219) (by decide) (jFr_w (n' := 219) hf (by decide))
  have hO := kj_ok (rm := ({ frames := 7, cells := 285, slots := jSl ftB ksK 286 - jSl ftB ksK 1, locals := 167 } : Room)) (ft := ftB) (Qs := Qs) (i := 218) (rk := 5) (post := fun _ _ => True) hc (by rw [lnK]; decide) (Nat.le_of_ble_eq_true rfl) (jSl_m (by decide)) (Or.inl rfl)
  refine kj_pq hx hb hts hK had hs hown hin2 (n0 := 1) (i := 218) (v := 211) (by rw [lnK]; decide) (by unfold ri_; omega) (tkk kK_0 (by decide)) fB_14_6 rfl ff_X11_55 dX11_init_121 (fun M1 e1 => ?_)
  subst e1
  have hf := jFr_up (c := 0) (i := 6) (v := ((211 : Nat) : Int)) hf (by decide)
  refine j_aload_n hO dX11_init_124 rfl 1 rfl ?_
  refine kj_new hx hb hts hK had hs hown (n0 := 1) (i := 218) (n := 219) (i1 := 219) rfl rfl kK_219 nc_X11_59 dX11_init_125 (Nat.le_of_ble_eq_true rfl) (jSl_m (by decide)) hf ?_
  have hf := jFr_w (n' := 220) hf (by decide)
  have hO := kj_ok (rm := ({ frames := 7, cells := 285, slots := jSl ftB ksK 286 - jSl ftB ksK 1, locals := 167 } : Room)) (ft := ftB) (Qs := Qs) (i := 219) (rk := 5) (post := fun _ _ => True) hc (by rw [lnK]; decide) (Nat.le_of_ble_eq_true rfl) (jSl_m (by decide)) (Or.inl rfl)
  refine j_dup hO dX11_init_128 rfl ?_
  refine j_aload_n hO dX11_init_129 rfl 1 rfl ?_
  refine j_gq (v := 8) hO (tkk kK_0 (by decide)) fB_14_1 rfl fl_X11_19 dX11_init_130 (by rfl) ?_
  refine kj_call hx hb hts hK had hs hml hown hgo hXc hXt (n0 := 1) (i := 219) (nn := 220) (i2 := 234) (c0 := 219) rfl rfl (c_X4_init_219 (l := l) (D := D) (cy := cy) (xs := xs) (L := L) had) rfl om_1781 ⟨rfl, rfl, Nat.le_of_ble_eq_true rfl, Nat.le_of_ble_eq_true rfl⟩ [.ref (ad 8)] ⟨om_1782, om_1783, om_289⟩ rfl hd_X4_init rfl (Nat.le_of_ble_eq_true rfl) dX11_init_133 (by rw [lnK]; decide) (Nat.le_of_ble_eq_true rfl) (jSl_m (by decide)) (P := fun M1 => M1 = T_X4_init_219 _) ⟨rfl, hf, rfl⟩ (fun M1 e1 => ?_)
  subst e1
  have hf := fr_X4_init_219 (n := 235) (by decide) (jFr_w (n' := 235) hf (by decide))
  have hO := kj_ok (rm := ({ frames := 7, cells := 285, slots := jSl ftB ksK 286 - jSl ftB ksK 1, locals := 167 } : Room)) (ft := ftB) (Qs := Qs) (i := 234) (rk := 5) (post := fun _ _ => True) hc (by rw [lnK]; decide) (Nat.le_of_ble_eq_true rfl) (jSl_m (by decide)) (Or.inl rfl)
  refine kj_pq hx hb hts hK had hs hown hin2 (n0 := 1) (i := 234) (v := 219) (by rw [lnK]; decide) (by unfold ri_; omega) (tkk kK_0 (by decide)) fB_14_7 rfl ff_X11_62 dX11_init_136 (fun M1 e1 => ?_)
  subst e1
  have hf := jFr_up (c := 0) (i := 7) (v := ((219 : Nat) : Int)) hf (by decide)
  refine j_aload_n hO dX11_init_139 rfl 1 rfl ?_
  refine j_iconst hO dX11_init_140 ?_
  refine kj_q5 hx hb hts hK had hs hown hXt.2.2.2.2.2.2.2.1 rfl (n0 := 1) (i := 234) (N := 3) (n := 235) (i1 := 235) rfl rfl kK_235 rfl (by decide) om_1785 dX11_init_141 (Nat.le_of_ble_eq_true rfl) (jSl_m (by decide)) hf ?_
  have hf := jFr_w (n' := 236) hf (by decide)
  have hO := kj_ok (rm := ({ frames := 7, cells := 285, slots := jSl ftB ksK 286 - jSl ftB ksK 1, locals := 167 } : Room)) (ft := ftB) (Qs := Qs) (i := 235) (rk := 5) (post := fun _ _ => True) hc (by rw [lnK]; decide) (Nat.le_of_ble_eq_true rfl) (jSl_m (by decide)) (Or.inl rfl)
  refine kj_pqa hx hb hts hK had hs hown hin2 (n0 := 1) (i := 235) (v := 235) (by rw [lnK]; decide) (by unfold ri_; omega) (tkk kK_0 (by decide)) fB_14_8 rfl ff_X11_66 dX11_init_144 (fun M1 e1 => ?_)
  subst e1
  have hf := jFr_up (c := 0) (i := 8) (v := ((235 : Nat) : Int)) hf (by decide)
  refine j_iconst hO dX11_init_147 ?_
  refine j_istore_n (lv' := [(1, .int (Ii 0)), (0, .ref (ad 0))]) hO dX11_init_148 rfl (by decide) rfl ?_
  refine j_iload_n hO dX11_init_149 rfl 0 rfl ?_
  refine j_iconst hO dX11_init_150 ?_
  refine j_icmp_ge hO 177 rk_0 rk_3 dX11_init_151 (by decide) (fun z => absurd z (by decide)) (fun _ => ?_)
  refine j_aload_n hO dX11_init_154 rfl 1 rfl ?_
  refine j_gq (v := 235) hO (tkk kK_0 (by decide)) fB_14_8 rfl fl_X11_66 dX11_init_155 (by rfl) ?_
  refine j_iload_n hO dX11_init_158 rfl 0 rfl ?_
  refine kj_new hx hb hts hK had hs hown (n0 := 1) (i := 235) (n := 236) (i1 := 236) rfl rfl kK_236 nc_X11_50 dX11_init_159 (Nat.le_of_ble_eq_true rfl) (jSl_m (by decide)) hf ?_
  have hf := jFr_w (n' := 237) hf (by decide)
  have hO := kj_ok (rm := ({ frames := 7, cells := 285, slots := jSl ftB ksK 286 - jSl ftB ksK 1, locals := 167 } : Room)) (ft := ftB) (Qs := Qs) (i := 236) (rk := 5) (post := fun _ _ => True) hc (by rw [lnK]; decide) (Nat.le_of_ble_eq_true rfl) (jSl_m (by decide)) (Or.inl rfl)
  refine j_dup hO dX11_init_162 rfl ?_
  refine j_aload_n hO dX11_init_163 rfl 1 rfl ?_
  refine j_gq (v := 1) hO (tkk kK_0 (by decide)) fB_14_0 rfl fl_X11_12 dX11_init_164 (by rfl) ?_
  refine kj_call hx hb hts hK had hs hml hown hgo hXc hXt (n0 := 1) (i := 236) (nn := 237) (i2 := 243) (c0 := 236) rfl rfl (c_X6_init_236 (l := l) (D := D) (cy := cy) (xs := xs) (L := L) had) rfl om_1758 ⟨rfl, rfl, Nat.le_of_ble_eq_true rfl, Nat.le_of_ble_eq_true rfl⟩ [.ref (ad 1)] ⟨om_1759, om_1760, om_609⟩ rfl hd_X6_init rfl (Nat.le_of_ble_eq_true rfl) dX11_init_167 (by rw [lnK]; decide) (Nat.le_of_ble_eq_true rfl) (jSl_m (by decide)) (P := fun M1 => M1 = T_X6_init_236 _) ⟨rfl, hf, rfl⟩ (fun M1 e1 => ?_)
  subst e1
  have hf := fr_X6_init_236 (n := 244) (by decide) (jFr_w (n' := 244) hf (by decide))
  have hO := kj_ok (rm := ({ frames := 7, cells := 285, slots := jSl ftB ksK 286 - jSl ftB ksK 1, locals := 167 } : Room)) (ft := ftB) (Qs := Qs) (i := 243) (rk := 5) (post := fun _ _ => True) hc (by rw [lnK]; decide) (Nat.le_of_ble_eq_true rfl) (jSl_m (by decide)) (Or.inl rfl)
  refine j_aast5 (v := 236) hO rk_0 (by unfold ri_; omega) (tkk kK_235 (by decide)) (tkk kK_236 (by decide)) rfl rfl (by decide) (by decide) dX11_init_170 (fun M1 e1 => ?_)
  subst e1
  have hf := jFr_up (c := 235) (i := 0) (v := ((236 : Nat) : Int)) hf (by decide)
  refine j_iinc (lv' := [(1, .int (Ii (0 + 1))), (0, .ref (ad 0))]) (k := 0) hO dX11_init_171 rfl (by decide) rfl ?_
  refine j_goto hO 149 dX11_init_174 (by decide) ?_
  refine j_iload_n hO dX11_init_149 rfl 0 rfl ?_
  refine j_iconst hO dX11_init_150 ?_
  refine j_icmp_ge hO 177 (by unfold ri_; omega) rk_3 dX11_init_151 (by decide) (fun z => absurd z (by decide)) (fun _ => ?_)
  refine j_aload_n hO dX11_init_154 rfl 1 rfl ?_
  refine j_gq (v := 235) hO (tkk kK_0 (by decide)) fB_14_8 rfl fl_X11_66 dX11_init_155 (by rfl) ?_
  refine j_iload_n hO dX11_init_158 rfl 0 rfl ?_
  refine kj_new hx hb hts hK had hs hown (n0 := 1) (i := 243) (n := 244) (i1 := 244) rfl rfl kK_244 nc_X11_50 dX11_init_159 (Nat.le_of_ble_eq_true rfl) (jSl_m (by decide)) hf ?_
  have hf := jFr_w (n' := 245) hf (by decide)
  have hO := kj_ok (rm := ({ frames := 7, cells := 285, slots := jSl ftB ksK 286 - jSl ftB ksK 1, locals := 167 } : Room)) (ft := ftB) (Qs := Qs) (i := 244) (rk := 5) (post := fun _ _ => True) hc (by rw [lnK]; decide) (Nat.le_of_ble_eq_true rfl) (jSl_m (by decide)) (Or.inl rfl)
  refine j_dup hO dX11_init_162 rfl ?_
  refine j_aload_n hO dX11_init_163 rfl 1 rfl ?_
  refine j_gq (v := 1) hO (tkk kK_0 (by decide)) fB_14_0 rfl fl_X11_12 dX11_init_164 (by rfl) ?_
  refine kj_call hx hb hts hK had hs hml hown hgo hXc hXt (n0 := 1) (i := 244) (nn := 245) (i2 := 251) (c0 := 244) rfl rfl (c_X6_init_244 (l := l) (D := D) (cy := cy) (xs := xs) (L := L) had) rfl om_1758 ⟨rfl, rfl, Nat.le_of_ble_eq_true rfl, Nat.le_of_ble_eq_true rfl⟩ [.ref (ad 1)] ⟨om_1759, om_1760, om_609⟩ rfl hd_X6_init rfl (Nat.le_of_ble_eq_true rfl) dX11_init_167 (by rw [lnK]; decide) (Nat.le_of_ble_eq_true rfl) (jSl_m (by decide)) (P := fun M1 => M1 = T_X6_init_244 _) ⟨rfl, hf, rfl⟩ (fun M1 e1 => ?_)
  subst e1
  have hf := fr_X6_init_244 (n := 252) (by decide) (jFr_w (n' := 252) hf (by decide))
  have hO := kj_ok (rm := ({ frames := 7, cells := 285, slots := jSl ftB ksK 286 - jSl ftB ksK 1, locals := 167 } : Room)) (ft := ftB) (Qs := Qs) (i := 251) (rk := 5) (post := fun _ _ => True) hc (by rw [lnK]; decide) (Nat.le_of_ble_eq_true rfl) (jSl_m (by decide)) (Or.inl rfl)
  refine j_aast5 (v := 244) hO (by unfold ri_; omega) (by unfold ri_; omega) (tkk kK_235 (by decide)) (tkk kK_244 (by decide)) rfl rfl (by decide) (by decide) dX11_init_170 (fun M1 e1 => ?_)
  subst e1
  have hf := jFr_up (c := 235) (i := (0 + 1)) (v := ((244 : Nat) : Int)) hf (by decide)
  refine j_iinc (lv' := [(1, .int (Ii ((0 + 1) + 1))), (0, .ref (ad 0))]) (k := 0) hO dX11_init_171 rfl (by decide) rfl ?_
  refine j_goto hO 149 dX11_init_174 (by decide) ?_
  refine j_iload_n hO dX11_init_149 rfl 0 rfl ?_
  refine j_iconst hO dX11_init_150 ?_
  refine j_icmp_ge hO 177 (by unfold ri_; omega) rk_3 dX11_init_151 (by decide) (fun z => absurd z (by decide)) (fun _ => ?_)
  refine j_aload_n hO dX11_init_154 rfl 1 rfl ?_
  refine j_gq (v := 235) hO (tkk kK_0 (by decide)) fB_14_8 rfl fl_X11_66 dX11_init_155 (by rfl) ?_
  refine j_iload_n hO dX11_init_158 rfl 0 rfl ?_
  refine kj_new hx hb hts hK had hs hown (n0 := 1) (i := 251) (n := 252) (i1 := 252) rfl rfl kK_252 nc_X11_50 dX11_init_159 (Nat.le_of_ble_eq_true rfl) (jSl_m (by decide)) hf ?_
  have hf := jFr_w (n' := 253) hf (by decide)
  have hO := kj_ok (rm := ({ frames := 7, cells := 285, slots := jSl ftB ksK 286 - jSl ftB ksK 1, locals := 167 } : Room)) (ft := ftB) (Qs := Qs) (i := 252) (rk := 5) (post := fun _ _ => True) hc (by rw [lnK]; decide) (Nat.le_of_ble_eq_true rfl) (jSl_m (by decide)) (Or.inl rfl)
  refine j_dup hO dX11_init_162 rfl ?_
  refine j_aload_n hO dX11_init_163 rfl 1 rfl ?_
  refine j_gq (v := 1) hO (tkk kK_0 (by decide)) fB_14_0 rfl fl_X11_12 dX11_init_164 (by rfl) ?_
  refine kj_call hx hb hts hK had hs hml hown hgo hXc hXt (n0 := 1) (i := 252) (nn := 253) (i2 := 259) (c0 := 252) rfl rfl (c_X6_init_252 (l := l) (D := D) (cy := cy) (xs := xs) (L := L) had) rfl om_1758 ⟨rfl, rfl, Nat.le_of_ble_eq_true rfl, Nat.le_of_ble_eq_true rfl⟩ [.ref (ad 1)] ⟨om_1759, om_1760, om_609⟩ rfl hd_X6_init rfl (Nat.le_of_ble_eq_true rfl) dX11_init_167 (by rw [lnK]; decide) (Nat.le_of_ble_eq_true rfl) (jSl_m (by decide)) (P := fun M1 => M1 = T_X6_init_252 _) ⟨rfl, hf, rfl⟩ (fun M1 e1 => ?_)
  subst e1
  have hf := fr_X6_init_252 (n := 260) (by decide) (jFr_w (n' := 260) hf (by decide))
  have hO := kj_ok (rm := ({ frames := 7, cells := 285, slots := jSl ftB ksK 286 - jSl ftB ksK 1, locals := 167 } : Room)) (ft := ftB) (Qs := Qs) (i := 259) (rk := 5) (post := fun _ _ => True) hc (by rw [lnK]; decide) (Nat.le_of_ble_eq_true rfl) (jSl_m (by decide)) (Or.inl rfl)
  refine j_aast5 (v := 252) hO (by unfold ri_; omega) (by unfold ri_; omega) (tkk kK_235 (by decide)) (tkk kK_252 (by decide)) rfl rfl (by decide) (by decide) dX11_init_170 (fun M1 e1 => ?_)
  subst e1
  have hf := jFr_up (c := 235) (i := ((0 + 1) + 1)) (v := ((252 : Nat) : Int)) hf (by decide)
  refine j_iinc (lv' := [(1, .int (Ii (((0 + 1) + 1) + 1))), (0, .ref (ad 0))]) (k := 0) hO dX11_init_171 rfl (by decide) rfl ?_
  refine j_goto hO 149 dX11_init_174 (by decide) ?_
  refine j_iload_n hO dX11_init_149 rfl 0 rfl ?_
  refine j_iconst hO dX11_init_150 ?_
  refine j_icmp_ge hO 177 (by unfold ri_; omega) rk_3 dX11_init_151 (by decide) (fun _ => ?_) (fun z => absurd z (by decide))
  refine j_aload_n hO dX11_init_177 rfl 1 rfl ?_
  refine j_iconst hO dX11_init_178 ?_
  refine kj_ai hx hb hts hK had hs hty.2.1 (n0 := 1) (i := 259) (N := 3) (n := 260) (i1 := 260) rfl rfl kK_260 rfl (by decide) om_1617 dX11_init_179 (Nat.le_of_ble_eq_true rfl) (jSl_m (by decide)) hf ?_
  have hf := jFr_w (n' := 261) hf (by decide)
  have hO := kj_ok (rm := ({ frames := 7, cells := 285, slots := jSl ftB ksK 286 - jSl ftB ksK 1, locals := 167 } : Room)) (ft := ftB) (Qs := Qs) (i := 260) (rk := 5) (post := fun _ _ => True) hc (by rw [lnK]; decide) (Nat.le_of_ble_eq_true rfl) (jSl_m (by decide)) (Or.inl rfl)
  refine kj_pqa hx hb hts hK had hs hown hin2 (n0 := 1) (i := 260) (v := 260) (by rw [lnK]; decide) (by unfold ri_; omega) (tkk kK_0 (by decide)) fB_14_9 rfl ff_X11_70 dX11_init_181 (fun M1 e1 => ?_)
  subst e1
  have hf := jFr_up (c := 0) (i := 9) (v := ((260 : Nat) : Int)) hf (by decide)
  refine j_aload_n hO dX11_init_184 rfl 1 rfl ?_
  refine kj_new hx hb hts hK had hs hown (n0 := 1) (i := 260) (n := 261) (i1 := 261) rfl rfl kK_261 nc_X11_74 dX11_init_185 (Nat.le_of_ble_eq_true rfl) (jSl_m (by decide)) hf ?_
  have hf := jFr_w (n' := 262) hf (by decide)
  have hO := kj_ok (rm := ({ frames := 7, cells := 285, slots := jSl ftB ksK 286 - jSl ftB ksK 1, locals := 167 } : Room)) (ft := ftB) (Qs := Qs) (i := 261) (rk := 5) (post := fun _ _ => True) hc (by rw [lnK]; decide) (Nat.le_of_ble_eq_true rfl) (jSl_m (by decide)) (Or.inl rfl)
  refine j_dup hO dX11_init_188 rfl ?_
  refine j_aload_n hO dX11_init_189 rfl 1 rfl ?_
  refine j_gq (v := 1) hO (tkk kK_0 (by decide)) fB_14_0 rfl fl_X11_12 dX11_init_190 (by rfl) ?_
  refine kj_call hx hb hts hK had hs hml hown hgo hXc hXt (n0 := 1) (i := 261) (nn := 262) (i2 := 273) (c0 := 261) rfl rfl (c_X7_init_261 (l := l) (D := D) (cy := cy) (xs := xs) (L := L) had) rfl om_1809 ⟨rfl, rfl, Nat.le_of_ble_eq_true rfl, Nat.le_of_ble_eq_true rfl⟩ [.ref (ad 1)] ⟨om_1810, om_1811, om_716⟩ rfl hd_X7_init rfl (Nat.le_of_ble_eq_true rfl) dX11_init_193 (by rw [lnK]; decide) (Nat.le_of_ble_eq_true rfl) (jSl_m (by decide)) (P := fun M1 => M1 = T_X7_init_261 _) ⟨rfl, hf, rfl⟩ (fun M1 e1 => ?_)
  subst e1
  have hf := fr_X7_init_261 (n := 274) (by decide) (jFr_w (n' := 274) hf (by decide))
  have hO := kj_ok (rm := ({ frames := 7, cells := 285, slots := jSl ftB ksK 286 - jSl ftB ksK 1, locals := 167 } : Room)) (ft := ftB) (Qs := Qs) (i := 273) (rk := 5) (post := fun _ _ => True) hc (by rw [lnK]; decide) (Nat.le_of_ble_eq_true rfl) (jSl_m (by decide)) (Or.inl rfl)
  refine kj_pq hx hb hts hK had hs hown hin2 (n0 := 1) (i := 273) (v := 261) (by rw [lnK]; decide) (by unfold ri_; omega) (tkk kK_0 (by decide)) fB_14_11 rfl ff_X11_77 dX11_init_196 (fun M1 e1 => ?_)
  subst e1
  have hf := jFr_up (c := 0) (i := 11) (v := ((261 : Nat) : Int)) hf (by decide)
  refine j_aload_n hO dX11_init_199 rfl 1 rfl ?_
  refine kj_new hx hb hts hK had hs hown (n0 := 1) (i := 273) (n := 274) (i1 := 274) rfl rfl kK_274 nc_X11_81 dX11_init_200 (Nat.le_of_ble_eq_true rfl) (jSl_m (by decide)) hf ?_
  have hf := jFr_w (n' := 275) hf (by decide)
  have hO := kj_ok (rm := ({ frames := 7, cells := 285, slots := jSl ftB ksK 286 - jSl ftB ksK 1, locals := 167 } : Room)) (ft := ftB) (Qs := Qs) (i := 274) (rk := 5) (post := fun _ _ => True) hc (by rw [lnK]; decide) (Nat.le_of_ble_eq_true rfl) (jSl_m (by decide)) (Or.inl rfl)
  refine j_dup hO dX11_init_203 rfl ?_
  refine j_aload_n hO dX11_init_204 rfl 1 rfl ?_
  refine j_gq (v := 8) hO (tkk kK_0 (by decide)) fB_14_1 rfl fl_X11_19 dX11_init_205 (by rfl) ?_
  refine kj_call hx hb hts hK had hs hml hown hgo hXc hXt (n0 := 1) (i := 274) (nn := 275) (i2 := 279) (c0 := 274) rfl rfl (c_X1_init_274 (l := l) (D := D) (cy := cy) (xs := xs) (L := L) had) rfl om_1822 ⟨rfl, rfl, Nat.le_of_ble_eq_true rfl, Nat.le_of_ble_eq_true rfl⟩ [.ref (ad 8)] ⟨om_1823, om_1824, om_145⟩ rfl hd_X1_init rfl (Nat.le_of_ble_eq_true rfl) dX11_init_208 (by rw [lnK]; decide) (Nat.le_of_ble_eq_true rfl) (jSl_m (by decide)) (P := fun M1 => M1 = T_X1_init_274 _) ⟨rfl, hf, rfl⟩ (fun M1 e1 => ?_)
  subst e1
  have hf := fr_X1_init_274 (n := 280) (by decide) (jFr_w (n' := 280) hf (by decide))
  have hO := kj_ok (rm := ({ frames := 7, cells := 285, slots := jSl ftB ksK 286 - jSl ftB ksK 1, locals := 167 } : Room)) (ft := ftB) (Qs := Qs) (i := 279) (rk := 5) (post := fun _ _ => True) hc (by rw [lnK]; decide) (Nat.le_of_ble_eq_true rfl) (jSl_m (by decide)) (Or.inl rfl)
  refine kj_pq hx hb hts hK had hs hown hin2 (n0 := 1) (i := 279) (v := 274) (by rw [lnK]; decide) (by unfold ri_; omega) (tkk kK_0 (by decide)) fB_14_12 rfl ff_X11_84 dX11_init_211 (fun M1 e1 => ?_)
  subst e1
  have hf := jFr_up (c := 0) (i := 12) (v := ((274 : Nat) : Int)) hf (by decide)
  refine j_aload_n hO dX11_init_214 rfl 1 rfl ?_
  refine kj_new hx hb hts hK had hs hown (n0 := 1) (i := 279) (n := 280) (i1 := 280) rfl rfl kK_280 nc_X11_88 dX11_init_215 (Nat.le_of_ble_eq_true rfl) (jSl_m (by decide)) hf ?_
  have hf := jFr_w (n' := 281) hf (by decide)
  have hO := kj_ok (rm := ({ frames := 7, cells := 285, slots := jSl ftB ksK 286 - jSl ftB ksK 1, locals := 167 } : Room)) (ft := ftB) (Qs := Qs) (i := 280) (rk := 5) (post := fun _ _ => True) hc (by rw [lnK]; decide) (Nat.le_of_ble_eq_true rfl) (jSl_m (by decide)) (Or.inl rfl)
  refine j_dup hO dX11_init_218 rfl ?_
  refine j_aload_n hO dX11_init_219 rfl 1 rfl ?_
  refine j_gq (v := 8) hO (tkk kK_0 (by decide)) fB_14_1 rfl fl_X11_19 dX11_init_220 (by rfl) ?_
  refine kj_call hx hb hts hK had hs hml hown hgo hXc hXt (n0 := 1) (i := 280) (nn := 281) (i2 := 284) (c0 := 280) rfl rfl (c_X0_init_280 (l := l) (D := D) (cy := cy) (xs := xs) (L := L) had) rfl om_1835 ⟨rfl, rfl, Nat.le_of_ble_eq_true rfl, Nat.le_of_ble_eq_true rfl⟩ [.ref (ad 8)] ⟨om_1836, om_1837, om_4⟩ rfl hd_X0_init rfl (Nat.le_of_ble_eq_true rfl) dX11_init_223 (by rw [lnK]; decide) (Nat.le_of_ble_eq_true rfl) (jSl_m (by decide)) (P := fun M1 => M1 = T_X0_init_280 _) ⟨rfl, hf, rfl⟩ (fun M1 e1 => ?_)
  subst e1
  have hf := fr_X0_init_280 (n := 285) (by decide) (jFr_w (n' := 285) hf (by decide))
  have hO := kj_ok (rm := ({ frames := 7, cells := 285, slots := jSl ftB ksK 286 - jSl ftB ksK 1, locals := 167 } : Room)) (ft := ftB) (Qs := Qs) (i := 284) (rk := 5) (post := fun _ _ => True) hc (by rw [lnK]; decide) (Nat.le_of_ble_eq_true rfl) (jSl_m (by decide)) (Or.inl rfl)
  refine kj_pq hx hb hts hK had hs hown hin2 (n0 := 1) (i := 284) (v := 280) (by rw [lnK]; decide) (by unfold ri_; omega) (tkk kK_0 (by decide)) fB_14_13 rfl ff_X11_91 dX11_init_226 (fun M1 e1 => ?_)
  subst e1
  have hf := jFr_up (c := 0) (i := 13) (v := ((280 : Nat) : Int)) hf (by decide)
  refine j_aload_n hO dX11_init_229 rfl 1 rfl ?_
  refine j_sipush hO dX11_init_230 (by decide) ?_
  refine kj_ai hx hb hts hK had hs hty.2.1 (n0 := 1) (i := 284) (N := 400) (n := 285) (i1 := 285) rfl rfl kK_285 rfl (by decide) om_1617 dX11_init_233 (Nat.le_of_ble_eq_true rfl) (jSl_m (by decide)) hf ?_
  have hf := jFr_w (n' := 286) hf (by decide)
  have hO := kj_ok (rm := ({ frames := 7, cells := 285, slots := jSl ftB ksK 286 - jSl ftB ksK 1, locals := 167 } : Room)) (ft := ftB) (Qs := Qs) (i := 285) (rk := 5) (post := fun _ _ => True) hc (by rw [lnK]; decide) (Nat.le_of_ble_eq_true rfl) (jSl_m (by decide)) (Or.inl rfl)
  refine kj_pqa hx hb hts hK had hs hown hin2 (n0 := 1) (i := 285) (v := 285) (by rw [lnK]; decide) (by unfold ri_; omega) (tkk kK_0 (by decide)) fB_14_14 rfl ff_X11_95 dX11_init_235 (fun M1 e1 => ?_)
  subst e1
  have hf := jFr_up (c := 0) (i := 14) (v := ((285 : Nat) : Int)) hf (by decide)
  refine j_aload_n hO dX11_init_238 rfl 1 rfl ?_
  refine j_iconst hO dX11_init_239 ?_
  refine j_pi hO rk_m1 (tkk kK_0 (by decide)) fB_14_17 rfl fp_X11_98 dX11_init_240 (fun M1 e1 => ?_)
  subst e1
  have hf := jFr_up (c := 0) (i := 17) (v := (-1)) hf (by decide)
  exact hret _ _ _ dX11_init_243 hF
set_option maxHeartbeats 4000000 in
set_option maxRecDepth 100000 in
theorem k_X12_init_b1062 {l : Launch} {D : va_G} {cy : Nat → ClassId} {ad : Nat → Nat} {ksB : List (Nat × Nat)} {xs : Nat → Int} {L : Nat} {Q : Int → MM → Prop} {J : Nat → List (Nat × Value) → List Value → MM → Prop} (hin : jIn ad ksB.length)  (hk1 : ksB[286]? = some (6, 15)) (hk_keys : ksB[289]? = some (1, 29)) (hJ : jOk l D vwCl (tyB cy) cy ad ftB ksB (XtB ad xs L) Om RX12 cX12_init 2 0 ({ frames := 3, cells := 102, slots := jSl ftB ksK 389 - jSl ftB ksK 287, locals := 65 } : Room) Q J)  : ∀ (x1 : Int) (M : MM), ri_ x1 → w_X12_init_b1062  Q  x1 M → J 1062 [(0, .ref (ad 286)), (1, .int (Ii x1))] [] M := by
  have H9 : ∀ (n : Nat) (x1 : Int) (M : MM), ri_ x1 → jit (fun _ _ => False) (wb_X12_init_b1062  Q ) n x1 M → J 1062 [(0, .ref (ad 286)), (1, .int (Ii x1))] [] M := by
    intro n
    induction n with
    | zero => intro x1 M gx1 hF; exact False.elim hF
    | succ n ih =>
    intro x1 M gx1 hF
    have hF : wb_X12_init_b1062  Q  (jit (fun _ _ => False) (wb_X12_init_b1062  Q ) n) x1 M := hF
    unfold wb_X12_init_b1062 at hF
    refine j_iload_n hJ dX12_init_1062 rfl 1 rfl ?_
    refine j_aload_n hJ dX12_init_1063 rfl 0 rfl ?_
    refine j_gq (v := 289) hJ hk1 fB_15_4 rfl fl_X12_74 dX12_init_1064 hF.1 ?_
    have hF := hF.2
    refine j_alen1 hJ hk_keys dX12_init_1067 ?_
    refine j_icmp_ge hJ 1092 gx1 (by unfold ri_; omega) dX12_init_1068 (by decide) (fun z1 => ?_) (fun z1 => ?_)
    · have hF := hF.1 z1
      exact j_vret hJ rfl dX12_init_1092 hF
    · have hF := hF.2 z1
      refine j_aload_n hJ dX12_init_1071 rfl 0 rfl ?_
      refine j_gq (v := 289) hJ hk1 fB_15_4 rfl fl_X12_74 dX12_init_1072 hF.1 ?_
      have hF := hF.2
      refine j_iload_n hJ dX12_init_1075 rfl 1 rfl ?_
      refine j_aload_n hJ dX12_init_1076 rfl 0 rfl ?_
      refine j_gq (v := 289) hJ hk1 fB_15_4 rfl fl_X12_74 dX12_init_1077 hF.1 ?_
      have hF := hF.2
      refine j_iload_n hJ dX12_init_1080 rfl 1 rfl ?_
      refine j_lald hJ gx1 hk_keys hF.1 hF.2.1 dX12_init_1081 (fun v2 ev2 gv2 => ?_)
      have hF := hF.2.2 v2 ev2 gv2
      refine j_callSl hJ (c_X12_coded_B (l := l) (D := D) (cy := cy) (ad := ad) hin) rfl om_1474 ⟨rfl, rfl, Nat.le_of_ble_eq_true rfl, Nat.le_of_ble_eq_true rfl⟩ [.long (Ll v2)] mv_X12_384 hd_X12_coded rfl (Nat.le_of_ble_eq_true rfl) dX12_init_1082 ⟨v2, rfl, gv2, hF⟩ (fun r3 M4 gr3 qM4 => ?_)
      have hF := qM4 gr3
      refine j_last hJ gx1 gr3 hk_keys hF.1 hF.2.1 dX12_init_1085 (fun M5 eM5 => ?_)
      have hF := hF.2.2 M5 eM5
      refine j_iinc (lv' := [(1, .int (Ii (x1 + 1))), (0, .ref (ad 286))]) (k := 1) hJ dX12_init_1086 rfl (by decide) rfl ?_
      have g6 := hF.1; have hF := hF.2
      refine j_goto hJ 1062 dX12_init_1089 (by decide) ?_
      exact j_sub hJ [1, 0] rfl (ih (x1 + 1) _ g6 hF)
  intro x1 M gx1 hF
  obtain ⟨n, hF⟩ := hF
  exact H9 n x1 M gx1 hF
set_option maxHeartbeats 4000000 in
set_option maxRecDepth 100000 in
theorem c_X12_init_286 {l : Launch} {D : va_G} {cy : Nat → ClassId} {ad : Nat → Nat} {xs : Nat → Int} {L b0 : Nat} (had : ∀ k, k < ksK.length → ad k = b0 + k) : jKN l D vwCl (tyB cy) cy ad ftB ksK (XtB ad xs L) yX12_init (.code yX12_init cX12_init 2 none :: Om) ({ frames := 3, cells := 102, slots := jSl ftB ksK 389 - jSl ftB ksK 287, locals := 65 } : Room) b0 287 102 (W_X12_init_286 ad) := by
  refine jKN_of (y := yX12_init) (cc := cX12_init) (nL := 2) (rm := ({ frames := 3, cells := 102, slots := jSl ftB ksK 389 - jSl ftB ksK 287, locals := 65 } : Room)) (own := RX12) (tyB_ok cy) had (XtB_ok ad xs L) Om_good (by decide) rfl rfl ?_
  intro post av M hF
  obtain ⟨rfl, hf, hF⟩ := hF
  refine ⟨Nat.le_of_ble_eq_true rfl, fun p e s m below meth c Qs hc hin2 hret => ?_⟩
  obtain ⟨hx, hb, hml, hown, hts, hK, hty, -, hgo, hXc, hXt, hs⟩ := id hc
  have hO := kj_ok (rm := ({ frames := 3, cells := 102, slots := jSl ftB ksK 389 - jSl ftB ksK 287, locals := 65 } : Room)) (ft := ftB) (Qs := Qs) (i := 0) (rk := 5) (post := fun _ _ => True) hc (by rw [lnK]; decide) (Nat.le_of_ble_eq_true rfl) (jSl_m (by decide)) (Or.inl rfl)
  refine j_aload_n hO dX12_init_0 rfl 0 rfl ?_
  refine kj_obj hx hb hml hts hown ⟨om_1841, om_1612, om_1613⟩ dX12_init_1 (Nat.le_of_ble_eq_true rfl) (Nat.le_of_ble_eq_true rfl) (Nat.le_of_ble_eq_true rfl) ?_
  refine j_aload_n hO dX12_init_4 rfl 0 rfl ?_
  refine j_sipush hO dX12_init_5 (by decide) ?_
  refine kj_ab hx hb hts hK had hs hty.1 (n0 := 287) (i := 0) (N := 4000) (n := 287) (i1 := 1) rfl rfl kK_287 rfl (by decide) om_1842 dX12_init_8 (Nat.le_of_ble_eq_true rfl) (jSl_m (by decide)) hf ?_
  have hf := jFr_w (n' := 288) hf (by decide)
  have hO := kj_ok (rm := ({ frames := 3, cells := 102, slots := jSl ftB ksK 389 - jSl ftB ksK 287, locals := 65 } : Room)) (ft := ftB) (Qs := Qs) (i := 1) (rk := 5) (post := fun _ _ => True) hc (by rw [lnK]; decide) (Nat.le_of_ble_eq_true rfl) (jSl_m (by decide)) (Or.inl rfl)
  refine kj_pqa hx hb hts hK had hs hown hin2 (n0 := 287) (i := 1) (v := 287) (by rw [lnK]; decide) (by unfold ri_; omega) (tkk kK_286 (by decide)) fB_15_1 rfl ff_X12_7 dX12_init_10 (fun M1 e1 => ?_)
  subst e1
  have hf := jFr_up (c := 286) (i := 1) (v := ((287 : Nat) : Int)) hf (by decide)
  refine j_aload_n hO dX12_init_13 rfl 0 rfl ?_
  refine j_bipush hO dX12_init_14 (by decide) ?_
  refine kj_ab hx hb hts hK had hs hty.1 (n0 := 287) (i := 1) (N := 20) (n := 288) (i1 := 2) rfl rfl kK_288 rfl (by decide) om_1842 dX12_init_16 (Nat.le_of_ble_eq_true rfl) (jSl_m (by decide)) hf ?_
  have hf := jFr_w (n' := 289) hf (by decide)
  have hO := kj_ok (rm := ({ frames := 3, cells := 102, slots := jSl ftB ksK 389 - jSl ftB ksK 287, locals := 65 } : Room)) (ft := ftB) (Qs := Qs) (i := 2) (rk := 5) (post := fun _ _ => True) hc (by rw [lnK]; decide) (Nat.le_of_ble_eq_true rfl) (jSl_m (by decide)) (Or.inl rfl)
  refine kj_pqa hx hb hts hK had hs hown hin2 (n0 := 287) (i := 2) (v := 288) (by rw [lnK]; decide) (by unfold ri_; omega) (tkk kK_286 (by decide)) fB_15_2 rfl ff_X12_13 dX12_init_18 (fun M1 e1 => ?_)
  subst e1
  have hf := jFr_up (c := 286) (i := 2) (v := ((288 : Nat) : Int)) hf (by decide)
  refine j_aload_n hO dX12_init_21 rfl 0 rfl ?_
  refine j_bipush hO dX12_init_22 (by decide) ?_
  refine kj_al hx hb hts hK had hs hty.2.2.1 (n0 := 287) (i := 2) (N := 29) (n := 289) (i1 := 3) rfl rfl kK_289 rfl (by decide) om_1622 dX12_init_24 (Nat.le_of_ble_eq_true rfl) (jSl_m (by decide)) hf ?_
  have hf := jFr_w (n' := 290) hf (by decide)
  have hO := kj_ok (rm := ({ frames := 3, cells := 102, slots := jSl ftB ksK 389 - jSl ftB ksK 287, locals := 65 } : Room)) (ft := ftB) (Qs := Qs) (i := 3) (rk := 5) (post := fun _ _ => True) hc (by rw [lnK]; decide) (Nat.le_of_ble_eq_true rfl) (jSl_m (by decide)) (Or.inl rfl)
  refine j_dup hO dX12_init_26 rfl ?_
  refine j_iconst hO dX12_init_27 ?_
  refine j_ldc2 hO 6384748 om_1845 (by decide) dX12_init_28 ?_
  refine j_last hO rk_0 lk_6384748 (tkk kK_289 (by decide)) (by decide) (by decide) dX12_init_31 (fun M1 e1 => ?_)
  subst e1
  have hf := jFr_up (c := 289) (i := 0) (v := 6384748) hf (by decide)
  refine j_dup hO dX12_init_32 rfl ?_
  refine j_iconst hO dX12_init_33 ?_
  refine j_ldc2 hO 7305070 om_1846 (by decide) dX12_init_34 ?_
  refine j_last hO rk_1 lk_7305070 (tkk kK_289 (by decide)) (by decide) (by decide) dX12_init_37 (fun M1 e1 => ?_)
  subst e1
  have hf := jFr_up (c := 289) (i := 1) (v := 7305070) hf (by decide)
  refine j_dup hO dX12_init_38 rfl ?_
  refine j_iconst hO dX12_init_39 ?_
  refine j_ldc2 hO 127991794263923 om_1847 (by decide) dX12_init_40 ?_
  refine j_last hO rk_2 lk_127991794263923 (tkk kK_289 (by decide)) (by decide) (by decide) dX12_init_43 (fun M1 e1 => ?_)
  subst e1
  have hf := jFr_up (c := 289) (i := 2) (v := 127991794263923) hf (by decide)
  refine j_dup hO dX12_init_44 rfl ?_
  refine j_iconst hO dX12_init_45 ?_
  refine j_ldc2 hO 512852587109 om_1848 (by decide) dX12_init_46 ?_
  refine j_last hO rk_3 lk_512852587109 (tkk kK_289 (by decide)) (by decide) (by decide) dX12_init_49 (fun M1 e1 => ?_)
  subst e1
  have hf := jFr_up (c := 289) (i := 3) (v := 512852587109) hf (by decide)
  refine j_dup hO dX12_init_50 rfl ?_
  refine j_iconst hO dX12_init_51 ?_
  refine j_ldc2 hO 6776180 om_1849 (by decide) dX12_init_52 ?_
  refine j_last hO rk_4 lk_6776180 (tkk kK_289 (by decide)) (by decide) (by decide) dX12_init_55 (fun M1 e1 => ?_)
  subst e1
  have hf := jFr_up (c := 289) (i := 4) (v := 6776180) hf (by decide)
  refine j_dup hO dX12_init_56 rfl ?_
  refine j_iconst hO dX12_init_57 ?_
  refine j_ldc2 hO 6385252 om_1850 (by decide) dX12_init_58 ?_
  refine j_last hO rk_5 lk_6385252 (tkk kK_289 (by decide)) (by decide) (by decide) dX12_init_61 (fun M1 e1 => ?_)
  subst e1
  have hf := jFr_up (c := 289) (i := 5) (v := 6385252) hf (by decide)
  refine j_dup hO dX12_init_62 rfl ?_
  refine j_bipush hO dX12_init_63 (by decide) ?_
  refine j_ldc2 hO 28530 om_1851 (by decide) dX12_init_65 ?_
  refine j_last hO rk_6 lk_28530 (tkk kK_289 (by decide)) (by decide) (by decide) dX12_init_68 (fun M1 e1 => ?_)
  subst e1
  have hf := jFr_up (c := 289) (i := 6) (v := 28530) hf (by decide)
  refine j_dup hO dX12_init_69 rfl ?_
  refine j_bipush hO dX12_init_70 (by decide) ?_
  refine j_ldc2 hO 7237492 om_1852 (by decide) dX12_init_72 ?_
  refine j_last hO rk_7 lk_7237492 (tkk kK_289 (by decide)) (by decide) (by decide) dX12_init_75 (fun M1 e1 => ?_)
  subst e1
  have hf := jFr_up (c := 289) (i := 7) (v := 7237492) hf (by decide)
  refine j_dup hO dX12_init_76 rfl ?_
  refine j_bipush hO dX12_init_77 (by decide) ?_
  refine j_ldc2 hO 1853189228 om_1853 (by decide) dX12_init_79 ?_
  refine j_last hO rk_8 lk_1853189228 (tkk kK_289 (by decide)) (by decide) (by decide) dX12_init_82 (fun M1 e1 => ?_)
  subst e1
  have hf := jFr_up (c := 289) (i := 8) (v := 1853189228) hf (by decide)
  refine j_dup hO dX12_init_83 rfl ?_
  refine j_bipush hO dX12_init_84 (by decide) ?_
  refine j_ldc2 hO 1953658213 om_1854 (by decide) dX12_init_86 ?_
  refine j_last hO rk_9 lk_1953658213 (tkk kK_289 (by decide)) (by decide) (by decide) dX12_init_89 (fun M1 e1 => ?_)
  subst e1
  have hf := jFr_up (c := 289) (i := 9) (v := 1953658213) hf (by decide)
  refine j_dup hO dX12_init_90 rfl ?_
  refine j_bipush hO dX12_init_91 (by decide) ?_
  refine j_ldc2 hO 439721161573 om_1855 (by decide) dX12_init_93 ?_
  refine j_last hO rk_10 lk_439721161573 (tkk kK_289 (by decide)) (by decide) (by decide) dX12_init_96 (fun M1 e1 => ?_)
  subst e1
  have hf := jFr_up (c := 289) (i := 10) (v := 439721161573) hf (by decide)
  refine j_dup hO dX12_init_97 rfl ?_
  refine j_bipush hO dX12_init_98 (by decide) ?_
  refine j_ldc2 hO 26995 om_1856 (by decide) dX12_init_100 ?_
  refine j_last hO rk_11 lk_26995 (tkk kK_289 (by decide)) (by decide) (by decide) dX12_init_103 (fun M1 e1 => ?_)
  subst e1
  have hf := jFr_up (c := 289) (i := 11) (v := 26995) hf (by decide)
  refine j_dup hO dX12_init_104 rfl ?_
  refine j_bipush hO dX12_init_105 (by decide) ?_
  refine j_ldc2 hO 26990 om_1857 (by decide) dX12_init_107 ?_
  refine j_last hO rk_12 lk_26990 (tkk kK_289 (by decide)) (by decide) (by decide) dX12_init_110 (fun M1 e1 => ?_)
  subst e1
  have hf := jFr_up (c := 289) (i := 12) (v := 26990) hf (by decide)
  refine j_dup hO dX12_init_111 rfl ?_
  refine j_bipush hO dX12_init_112 (by decide) ?_
  refine j_ldc2 hO 427071729268 om_1858 (by decide) dX12_init_114 ?_
  refine j_last hO rk_13 lk_427071729268 (tkk kK_289 (by decide)) (by decide) (by decide) dX12_init_117 (fun M1 e1 => ?_)
  subst e1
  have hf := jFr_up (c := 289) (i := 13) (v := 427071729268) hf (by decide)
  refine j_dup hO dX12_init_118 rfl ?_
  refine j_bipush hO dX12_init_119 (by decide) ?_
  refine j_ldc2 hO 7566701 om_1859 (by decide) dX12_init_121 ?_
  refine j_last hO rk_14 lk_7566701 (tkk kK_289 (by decide)) (by decide) (by decide) dX12_init_124 (fun M1 e1 => ?_)
  subst e1
  have hf := jFr_up (c := 289) (i := 14) (v := 7566701) hf (by decide)
  refine j_dup hO dX12_init_125 rfl ?_
  refine j_bipush hO dX12_init_126 (by decide) ?_
  refine j_ldc2 hO 1836020596 om_1860 (by decide) dX12_init_128 ?_
  refine j_last hO rk_15 lk_1836020596 (tkk kK_289 (by decide)) (by decide) (by decide) dX12_init_131 (fun M1 e1 => ?_)
  subst e1
  have hf := jFr_up (c := 289) (i := 15) (v := 1836020596) hf (by decide)
  refine j_dup hO dX12_init_132 rfl ?_
  refine j_bipush hO dX12_init_133 (by decide) ?_
  refine j_ldc2 hO 465557353332 om_1861 (by decide) dX12_init_135 ?_
  refine j_last hO rk_16 lk_465557353332 (tkk kK_289 (by decide)) (by decide) (by decide) dX12_init_138 (fun M1 e1 => ?_)
  subst e1
  have hf := jFr_up (c := 289) (i := 16) (v := 465557353332) hf (by decide)
  refine j_dup hO dX12_init_139 rfl ?_
  refine j_bipush hO dX12_init_140 (by decide) ?_
  refine j_ldc2 hO 1936682341 om_1862 (by decide) dX12_init_142 ?_
  refine j_last hO rk_17 lk_1936682341 (tkk kK_289 (by decide)) (by decide) (by decide) dX12_init_145 (fun M1 e1 => ?_)
  subst e1
  have hf := jFr_up (c := 289) (i := 17) (v := 1936682341) hf (by decide)
  refine j_dup hO dX12_init_146 rfl ?_
  refine j_bipush hO dX12_init_147 (by decide) ?_
  refine j_ldc2 hO 1700881256 om_1863 (by decide) dX12_init_149 ?_
  refine j_last hO rk_18 lk_1700881256 (tkk kK_289 (by decide)) (by decide) (by decide) dX12_init_152 (fun M1 e1 => ?_)
  subst e1
  have hf := jFr_up (c := 289) (i := 18) (v := 1700881256) hf (by decide)
  refine j_dup hO dX12_init_153 rfl ?_
  refine j_bipush hO dX12_init_154 (by decide) ?_
  refine j_ldc2 hO 1936292453 om_1864 (by decide) dX12_init_156 ?_
  refine j_last hO rk_19 lk_1936292453 (tkk kK_289 (by decide)) (by decide) (by decide) dX12_init_159 (fun M1 e1 => ?_)
  subst e1
  have hf := jFr_up (c := 289) (i := 19) (v := 1936292453) hf (by decide)
  refine j_dup hO dX12_init_160 rfl ?_
  refine j_bipush hO dX12_init_161 (by decide) ?_
  refine j_ldc2 hO 1801810036 om_1865 (by decide) dX12_init_163 ?_
  refine j_last hO rk_20 lk_1801810036 (tkk kK_289 (by decide)) (by decide) (by decide) dX12_init_166 (fun M1 e1 => ?_)
  subst e1
  have hf := jFr_up (c := 289) (i := 20) (v := 1801810036) hf (by decide)
  refine j_dup hO dX12_init_167 rfl ?_
  refine j_bipush hO dX12_init_168 (by decide) ?_
  refine j_ldc2 hO 431198598248 om_1866 (by decide) dX12_init_170 ?_
  refine j_last hO rk_21 lk_431198598248 (tkk kK_289 (by decide)) (by decide) (by decide) dX12_init_173 (fun M1 e1 => ?_)
  subst e1
  have hf := jFr_up (c := 289) (i := 21) (v := 431198598248) hf (by decide)
  refine j_dup hO dX12_init_174 rfl ?_
  refine j_bipush hO dX12_init_175 (by decide) ?_
  refine j_ldc2 hO 119182899770472 om_1867 (by decide) dX12_init_177 ?_
  refine j_last hO rk_22 lk_119182899770472 (tkk kK_289 (by decide)) (by decide) (by decide) dX12_init_180 (fun M1 e1 => ?_)
  subst e1
  have hf := jFr_up (c := 289) (i := 22) (v := 119182899770472) hf (by decide)
  refine j_dup hO dX12_init_181 rfl ?_
  refine j_bipush hO dX12_init_182 (by decide) ?_
  refine j_ldc2 hO 427020088179 om_1868 (by decide) dX12_init_184 ?_
  refine j_last hO rk_23 lk_427020088179 (tkk kK_289 (by decide)) (by decide) (by decide) dX12_init_187 (fun M1 e1 => ?_)
  subst e1
  have hf := jFr_up (c := 289) (i := 23) (v := 427020088179) hf (by decide)
  refine j_dup hO dX12_init_188 rfl ?_
  refine j_bipush hO dX12_init_189 (by decide) ?_
  refine j_ldc2 hO 495740482675 om_1869 (by decide) dX12_init_191 ?_
  refine j_last hO rk_24 lk_495740482675 (tkk kK_289 (by decide)) (by decide) (by decide) dX12_init_194 (fun M1 e1 => ?_)
  subst e1
  have hf := jFr_up (c := 289) (i := 24) (v := 495740482675) hf (by decide)
  refine j_dup hO dX12_init_195 rfl ?_
  refine j_bipush hO dX12_init_196 (by decide) ?_
  refine j_ldc2 hO 1751477348 om_1870 (by decide) dX12_init_198 ?_
  refine j_last hO rk_25 lk_1751477348 (tkk kK_289 (by decide)) (by decide) (by decide) dX12_init_201 (fun M1 e1 => ?_)
  subst e1
  have hf := jFr_up (c := 289) (i := 25) (v := 1751477348) hf (by decide)
  refine j_dup hO dX12_init_202 rfl ?_
  refine j_bipush hO dX12_init_203 (by decide) ?_
  refine j_ldc2 hO 1718775661 om_1871 (by decide) dX12_init_205 ?_
  refine j_last hO rk_26 lk_1718775661 (tkk kK_289 (by decide)) (by decide) (by decide) dX12_init_208 (fun M1 e1 => ?_)
  subst e1
  have hf := jFr_up (c := 289) (i := 26) (v := 1718775661) hf (by decide)
  refine j_dup hO dX12_init_209 rfl ?_
  refine j_bipush hO dX12_init_210 (by decide) ?_
  refine j_ldc2 hO 26996 om_1872 (by decide) dX12_init_212 ?_
  refine j_last hO rk_27 lk_26996 (tkk kK_289 (by decide)) (by decide) (by decide) dX12_init_215 (fun M1 e1 => ?_)
  subst e1
  have hf := jFr_up (c := 289) (i := 27) (v := 26996) hf (by decide)
  refine j_dup hO dX12_init_216 rfl ?_
  refine j_bipush hO dX12_init_217 (by decide) ?_
  refine j_ldc2 hO 499967946343 om_1873 (by decide) dX12_init_219 ?_
  refine j_last hO rk_28 lk_499967946343 (tkk kK_289 (by decide)) (by decide) (by decide) dX12_init_222 (fun M1 e1 => ?_)
  subst e1
  have hf := jFr_up (c := 289) (i := 28) (v := 499967946343) hf (by decide)
  refine kj_pqa hx hb hts hK had hs hown hin2 (n0 := 287) (i := 3) (v := 289) (by rw [lnK]; decide) (by unfold ri_; omega) (tkk kK_286 (by decide)) fB_15_4 rfl ff_X12_74 dX12_init_223 (fun M1 e1 => ?_)
  subst e1
  have hf := jFr_up (c := 286) (i := 4) (v := ((289 : Nat) : Int)) hf (by decide)
  refine j_aload_n hO dX12_init_226 rfl 0 rfl ?_
  refine j_bipush hO dX12_init_227 (by decide) ?_
  refine kj_al hx hb hts hK had hs hty.2.2.1 (n0 := 287) (i := 3) (N := 16) (n := 290) (i1 := 4) rfl rfl kK_290 rfl (by decide) om_1622 dX12_init_229 (Nat.le_of_ble_eq_true rfl) (jSl_m (by decide)) hf ?_
  have hf := jFr_w (n' := 291) hf (by decide)
  have hO := kj_ok (rm := ({ frames := 3, cells := 102, slots := jSl ftB ksK 389 - jSl ftB ksK 287, locals := 65 } : Room)) (ft := ftB) (Qs := Qs) (i := 4) (rk := 5) (post := fun _ _ => True) hc (by rw [lnK]; decide) (Nat.le_of_ble_eq_true rfl) (jSl_m (by decide)) (Or.inl rfl)
  refine kj_pqa hx hb hts hK had hs hown hin2 (n0 := 287) (i := 4) (v := 290) (by rw [lnK]; decide) (by unfold ri_; omega) (tkk kK_286 (by decide)) fB_15_5 rfl ff_X12_78 dX12_init_231 (fun M1 e1 => ?_)
  subst e1
  have hf := jFr_up (c := 286) (i := 5) (v := ((290 : Nat) : Int)) hf (by decide)
  refine j_aload_n hO dX12_init_234 rfl 0 rfl ?_
  refine j_bipush hO dX12_init_235 (by decide) ?_
  refine kj_al hx hb hts hK had hs hty.2.2.1 (n0 := 287) (i := 4) (N := 96) (n := 291) (i1 := 5) rfl rfl kK_291 rfl (by decide) om_1622 dX12_init_237 (Nat.le_of_ble_eq_true rfl) (jSl_m (by decide)) hf ?_
  have hf := jFr_w (n' := 292) hf (by decide)
  have hO := kj_ok (rm := ({ frames := 3, cells := 102, slots := jSl ftB ksK 389 - jSl ftB ksK 287, locals := 65 } : Room)) (ft := ftB) (Qs := Qs) (i := 5) (rk := 5) (post := fun _ _ => True) hc (by rw [lnK]; decide) (Nat.le_of_ble_eq_true rfl) (jSl_m (by decide)) (Or.inl rfl)
  refine kj_pqa hx hb hts hK had hs hown hin2 (n0 := 287) (i := 5) (v := 291) (by rw [lnK]; decide) (by unfold ri_; omega) (tkk kK_286 (by decide)) fB_15_6 rfl ff_X12_81 dX12_init_239 (fun M1 e1 => ?_)
  subst e1
  have hf := jFr_up (c := 286) (i := 6) (v := ((291 : Nat) : Int)) hf (by decide)
  refine j_aload_n hO dX12_init_242 rfl 0 rfl ?_
  refine j_bipush hO dX12_init_243 (by decide) ?_
  refine kj_al hx hb hts hK had hs hty.2.2.1 (n0 := 287) (i := 5) (N := 96) (n := 292) (i1 := 6) rfl rfl kK_292 rfl (by decide) om_1622 dX12_init_245 (Nat.le_of_ble_eq_true rfl) (jSl_m (by decide)) hf ?_
  have hf := jFr_w (n' := 293) hf (by decide)
  have hO := kj_ok (rm := ({ frames := 3, cells := 102, slots := jSl ftB ksK 389 - jSl ftB ksK 287, locals := 65 } : Room)) (ft := ftB) (Qs := Qs) (i := 6) (rk := 5) (post := fun _ _ => True) hc (by rw [lnK]; decide) (Nat.le_of_ble_eq_true rfl) (jSl_m (by decide)) (Or.inl rfl)
  refine kj_pqa hx hb hts hK had hs hown hin2 (n0 := 287) (i := 6) (v := 292) (by rw [lnK]; decide) (by unfold ri_; omega) (tkk kK_286 (by decide)) fB_15_7 rfl ff_X12_84 dX12_init_247 (fun M1 e1 => ?_)
  subst e1
  have hf := jFr_up (c := 286) (i := 7) (v := ((292 : Nat) : Int)) hf (by decide)
  refine j_aload_n hO dX12_init_250 rfl 0 rfl ?_
  refine j_bipush hO dX12_init_251 (by decide) ?_
  refine kj_ai hx hb hts hK had hs hty.2.1 (n0 := 287) (i := 6) (N := 16) (n := 293) (i1 := 7) rfl rfl kK_293 rfl (by decide) om_1617 dX12_init_253 (Nat.le_of_ble_eq_true rfl) (jSl_m (by decide)) hf ?_
  have hf := jFr_w (n' := 294) hf (by decide)
  have hO := kj_ok (rm := ({ frames := 3, cells := 102, slots := jSl ftB ksK 389 - jSl ftB ksK 287, locals := 65 } : Room)) (ft := ftB) (Qs := Qs) (i := 7) (rk := 5) (post := fun _ _ => True) hc (by rw [lnK]; decide) (Nat.le_of_ble_eq_true rfl) (jSl_m (by decide)) (Or.inl rfl)
  refine kj_pqa hx hb hts hK had hs hown hin2 (n0 := 287) (i := 7) (v := 293) (by rw [lnK]; decide) (by unfold ri_; omega) (tkk kK_286 (by decide)) fB_15_8 rfl ff_X12_87 dX12_init_255 (fun M1 e1 => ?_)
  subst e1
  have hf := jFr_up (c := 286) (i := 8) (v := ((293 : Nat) : Int)) hf (by decide)
  refine j_aload_n hO dX12_init_258 rfl 0 rfl ?_
  refine j_bipush hO dX12_init_259 (by decide) ?_
  refine kj_ai hx hb hts hK had hs hty.2.1 (n0 := 287) (i := 7) (N := 16) (n := 294) (i1 := 8) rfl rfl kK_294 rfl (by decide) om_1617 dX12_init_261 (Nat.le_of_ble_eq_true rfl) (jSl_m (by decide)) hf ?_
  have hf := jFr_w (n' := 295) hf (by decide)
  have hO := kj_ok (rm := ({ frames := 3, cells := 102, slots := jSl ftB ksK 389 - jSl ftB ksK 287, locals := 65 } : Room)) (ft := ftB) (Qs := Qs) (i := 8) (rk := 5) (post := fun _ _ => True) hc (by rw [lnK]; decide) (Nat.le_of_ble_eq_true rfl) (jSl_m (by decide)) (Or.inl rfl)
  refine kj_pqa hx hb hts hK had hs hown hin2 (n0 := 287) (i := 8) (v := 294) (by rw [lnK]; decide) (by unfold ri_; omega) (tkk kK_286 (by decide)) fB_15_9 rfl ff_X12_91 dX12_init_263 (fun M1 e1 => ?_)
  subst e1
  have hf := jFr_up (c := 286) (i := 9) (v := ((294 : Nat) : Int)) hf (by decide)
  refine j_aload_n hO dX12_init_266 rfl 0 rfl ?_
  refine j_bipush hO dX12_init_267 (by decide) ?_
  refine kj_ai hx hb hts hK had hs hty.2.1 (n0 := 287) (i := 8) (N := 16) (n := 295) (i1 := 9) rfl rfl kK_295 rfl (by decide) om_1617 dX12_init_269 (Nat.le_of_ble_eq_true rfl) (jSl_m (by decide)) hf ?_
  have hf := jFr_w (n' := 296) hf (by decide)
  have hO := kj_ok (rm := ({ frames := 3, cells := 102, slots := jSl ftB ksK 389 - jSl ftB ksK 287, locals := 65 } : Room)) (ft := ftB) (Qs := Qs) (i := 9) (rk := 5) (post := fun _ _ => True) hc (by rw [lnK]; decide) (Nat.le_of_ble_eq_true rfl) (jSl_m (by decide)) (Or.inl rfl)
  refine kj_pqa hx hb hts hK had hs hown hin2 (n0 := 287) (i := 9) (v := 295) (by rw [lnK]; decide) (by unfold ri_; omega) (tkk kK_286 (by decide)) fB_15_10 rfl ff_X12_94 dX12_init_271 (fun M1 e1 => ?_)
  subst e1
  have hf := jFr_up (c := 286) (i := 10) (v := ((295 : Nat) : Int)) hf (by decide)
  refine j_aload_n hO dX12_init_274 rfl 0 rfl ?_
  refine j_bipush hO dX12_init_275 (by decide) ?_
  refine kj_ai hx hb hts hK had hs hty.2.1 (n0 := 287) (i := 9) (N := 16) (n := 296) (i1 := 10) rfl rfl kK_296 rfl (by decide) om_1617 dX12_init_277 (Nat.le_of_ble_eq_true rfl) (jSl_m (by decide)) hf ?_
  have hf := jFr_w (n' := 297) hf (by decide)
  have hO := kj_ok (rm := ({ frames := 3, cells := 102, slots := jSl ftB ksK 389 - jSl ftB ksK 287, locals := 65 } : Room)) (ft := ftB) (Qs := Qs) (i := 10) (rk := 5) (post := fun _ _ => True) hc (by rw [lnK]; decide) (Nat.le_of_ble_eq_true rfl) (jSl_m (by decide)) (Or.inl rfl)
  refine kj_pqa hx hb hts hK had hs hown hin2 (n0 := 287) (i := 10) (v := 296) (by rw [lnK]; decide) (by unfold ri_; omega) (tkk kK_286 (by decide)) fB_15_11 rfl ff_X12_97 dX12_init_279 (fun M1 e1 => ?_)
  subst e1
  have hf := jFr_up (c := 286) (i := 11) (v := ((296 : Nat) : Int)) hf (by decide)
  refine j_aload_n hO dX12_init_282 rfl 0 rfl ?_
  refine j_bipush hO dX12_init_283 (by decide) ?_
  refine kj_ai hx hb hts hK had hs hty.2.1 (n0 := 287) (i := 10) (N := 16) (n := 297) (i1 := 11) rfl rfl kK_297 rfl (by decide) om_1617 dX12_init_285 (Nat.le_of_ble_eq_true rfl) (jSl_m (by decide)) hf ?_
  have hf := jFr_w (n' := 298) hf (by decide)
  have hO := kj_ok (rm := ({ frames := 3, cells := 102, slots := jSl ftB ksK 389 - jSl ftB ksK 287, locals := 65 } : Room)) (ft := ftB) (Qs := Qs) (i := 11) (rk := 5) (post := fun _ _ => True) hc (by rw [lnK]; decide) (Nat.le_of_ble_eq_true rfl) (jSl_m (by decide)) (Or.inl rfl)
  refine kj_pqa hx hb hts hK had hs hown hin2 (n0 := 287) (i := 11) (v := 297) (by rw [lnK]; decide) (by unfold ri_; omega) (tkk kK_286 (by decide)) fB_15_12 rfl ff_X12_100 dX12_init_287 (fun M1 e1 => ?_)
  subst e1
  have hf := jFr_up (c := 286) (i := 12) (v := ((297 : Nat) : Int)) hf (by decide)
  refine j_aload_n hO dX12_init_290 rfl 0 rfl ?_
  refine j_bipush hO dX12_init_291 (by decide) ?_
  refine kj_ai hx hb hts hK had hs hty.2.1 (n0 := 287) (i := 11) (N := 96) (n := 298) (i1 := 12) rfl rfl kK_298 rfl (by decide) om_1617 dX12_init_293 (Nat.le_of_ble_eq_true rfl) (jSl_m (by decide)) hf ?_
  have hf := jFr_w (n' := 299) hf (by decide)
  have hO := kj_ok (rm := ({ frames := 3, cells := 102, slots := jSl ftB ksK 389 - jSl ftB ksK 287, locals := 65 } : Room)) (ft := ftB) (Qs := Qs) (i := 12) (rk := 5) (post := fun _ _ => True) hc (by rw [lnK]; decide) (Nat.le_of_ble_eq_true rfl) (jSl_m (by decide)) (Or.inl rfl)
  refine kj_pqa hx hb hts hK had hs hown hin2 (n0 := 287) (i := 12) (v := 298) (by rw [lnK]; decide) (by unfold ri_; omega) (tkk kK_286 (by decide)) fB_15_13 rfl ff_X12_103 dX12_init_295 (fun M1 e1 => ?_)
  subst e1
  have hf := jFr_up (c := 286) (i := 13) (v := ((298 : Nat) : Int)) hf (by decide)
  refine j_aload_n hO dX12_init_298 rfl 0 rfl ?_
  refine j_bipush hO dX12_init_299 (by decide) ?_
  refine kj_ai hx hb hts hK had hs hty.2.1 (n0 := 287) (i := 12) (N := 96) (n := 299) (i1 := 13) rfl rfl kK_299 rfl (by decide) om_1617 dX12_init_301 (Nat.le_of_ble_eq_true rfl) (jSl_m (by decide)) hf ?_
  have hf := jFr_w (n' := 300) hf (by decide)
  have hO := kj_ok (rm := ({ frames := 3, cells := 102, slots := jSl ftB ksK 389 - jSl ftB ksK 287, locals := 65 } : Room)) (ft := ftB) (Qs := Qs) (i := 13) (rk := 5) (post := fun _ _ => True) hc (by rw [lnK]; decide) (Nat.le_of_ble_eq_true rfl) (jSl_m (by decide)) (Or.inl rfl)
  refine kj_pqa hx hb hts hK had hs hown hin2 (n0 := 287) (i := 13) (v := 299) (by rw [lnK]; decide) (by unfold ri_; omega) (tkk kK_286 (by decide)) fB_15_14 rfl ff_X12_106 dX12_init_303 (fun M1 e1 => ?_)
  subst e1
  have hf := jFr_up (c := 286) (i := 14) (v := ((299 : Nat) : Int)) hf (by decide)
  refine j_aload_n hO dX12_init_306 rfl 0 rfl ?_
  refine j_bipush hO dX12_init_307 (by decide) ?_
  refine kj_ai hx hb hts hK had hs hty.2.1 (n0 := 287) (i := 13) (N := 96) (n := 300) (i1 := 14) rfl rfl kK_300 rfl (by decide) om_1617 dX12_init_309 (Nat.le_of_ble_eq_true rfl) (jSl_m (by decide)) hf ?_
  have hf := jFr_w (n' := 301) hf (by decide)
  have hO := kj_ok (rm := ({ frames := 3, cells := 102, slots := jSl ftB ksK 389 - jSl ftB ksK 287, locals := 65 } : Room)) (ft := ftB) (Qs := Qs) (i := 14) (rk := 5) (post := fun _ _ => True) hc (by rw [lnK]; decide) (Nat.le_of_ble_eq_true rfl) (jSl_m (by decide)) (Or.inl rfl)
  refine kj_pqa hx hb hts hK had hs hown hin2 (n0 := 287) (i := 14) (v := 300) (by rw [lnK]; decide) (by unfold ri_; omega) (tkk kK_286 (by decide)) fB_15_15 rfl ff_X12_109 dX12_init_311 (fun M1 e1 => ?_)
  subst e1
  have hf := jFr_up (c := 286) (i := 15) (v := ((300 : Nat) : Int)) hf (by decide)
  refine j_aload_n hO dX12_init_314 rfl 0 rfl ?_
  refine j_bipush hO dX12_init_315 (by decide) ?_
  refine kj_ai hx hb hts hK had hs hty.2.1 (n0 := 287) (i := 14) (N := 96) (n := 301) (i1 := 15) rfl rfl kK_301 rfl (by decide) om_1617 dX12_init_317 (Nat.le_of_ble_eq_true rfl) (jSl_m (by decide)) hf ?_
  have hf := jFr_w (n' := 302) hf (by decide)
  have hO := kj_ok (rm := ({ frames := 3, cells := 102, slots := jSl ftB ksK 389 - jSl ftB ksK 287, locals := 65 } : Room)) (ft := ftB) (Qs := Qs) (i := 15) (rk := 5) (post := fun _ _ => True) hc (by rw [lnK]; decide) (Nat.le_of_ble_eq_true rfl) (jSl_m (by decide)) (Or.inl rfl)
  refine kj_pqa hx hb hts hK had hs hown hin2 (n0 := 287) (i := 15) (v := 301) (by rw [lnK]; decide) (by unfold ri_; omega) (tkk kK_286 (by decide)) fB_15_16 rfl ff_X12_112 dX12_init_319 (fun M1 e1 => ?_)
  subst e1
  have hf := jFr_up (c := 286) (i := 16) (v := ((301 : Nat) : Int)) hf (by decide)
  refine j_aload_n hO dX12_init_322 rfl 0 rfl ?_
  refine j_bipush hO dX12_init_323 (by decide) ?_
  refine kj_az hx hb hts hK had hs hty.2.2.2 (n0 := 287) (i := 15) (N := 16) (n := 302) (i1 := 16) rfl rfl kK_302 rfl (by decide) om_1646 dX12_init_325 (Nat.le_of_ble_eq_true rfl) (jSl_m (by decide)) hf ?_
  have hf := jFr_w (n' := 303) hf (by decide)
  have hO := kj_ok (rm := ({ frames := 3, cells := 102, slots := jSl ftB ksK 389 - jSl ftB ksK 287, locals := 65 } : Room)) (ft := ftB) (Qs := Qs) (i := 16) (rk := 5) (post := fun _ _ => True) hc (by rw [lnK]; decide) (Nat.le_of_ble_eq_true rfl) (jSl_m (by decide)) (Or.inl rfl)
  refine kj_pqa hx hb hts hK had hs hown hin2 (n0 := 287) (i := 16) (v := 302) (by rw [lnK]; decide) (by unfold ri_; omega) (tkk kK_286 (by decide)) fB_15_17 rfl ff_X12_115 dX12_init_327 (fun M1 e1 => ?_)
  subst e1
  have hf := jFr_up (c := 286) (i := 17) (v := ((302 : Nat) : Int)) hf (by decide)
  refine j_aload_n hO dX12_init_330 rfl 0 rfl ?_
  refine j_bipush hO dX12_init_331 (by decide) ?_
  refine kj_az hx hb hts hK had hs hty.2.2.2 (n0 := 287) (i := 16) (N := 96) (n := 303) (i1 := 17) rfl rfl kK_303 rfl (by decide) om_1646 dX12_init_333 (Nat.le_of_ble_eq_true rfl) (jSl_m (by decide)) hf ?_
  have hf := jFr_w (n' := 304) hf (by decide)
  have hO := kj_ok (rm := ({ frames := 3, cells := 102, slots := jSl ftB ksK 389 - jSl ftB ksK 287, locals := 65 } : Room)) (ft := ftB) (Qs := Qs) (i := 17) (rk := 5) (post := fun _ _ => True) hc (by rw [lnK]; decide) (Nat.le_of_ble_eq_true rfl) (jSl_m (by decide)) (Or.inl rfl)
  refine kj_pqa hx hb hts hK had hs hown hin2 (n0 := 287) (i := 17) (v := 303) (by rw [lnK]; decide) (by unfold ri_; omega) (tkk kK_286 (by decide)) fB_15_18 rfl ff_X12_119 dX12_init_335 (fun M1 e1 => ?_)
  subst e1
  have hf := jFr_up (c := 286) (i := 18) (v := ((303 : Nat) : Int)) hf (by decide)
  refine j_aload_n hO dX12_init_338 rfl 0 rfl ?_
  refine j_bipush hO dX12_init_339 (by decide) ?_
  refine kj_az hx hb hts hK had hs hty.2.2.2 (n0 := 287) (i := 17) (N := 16) (n := 304) (i1 := 18) rfl rfl kK_304 rfl (by decide) om_1646 dX12_init_341 (Nat.le_of_ble_eq_true rfl) (jSl_m (by decide)) hf ?_
  have hf := jFr_w (n' := 305) hf (by decide)
  have hO := kj_ok (rm := ({ frames := 3, cells := 102, slots := jSl ftB ksK 389 - jSl ftB ksK 287, locals := 65 } : Room)) (ft := ftB) (Qs := Qs) (i := 18) (rk := 5) (post := fun _ _ => True) hc (by rw [lnK]; decide) (Nat.le_of_ble_eq_true rfl) (jSl_m (by decide)) (Or.inl rfl)
  refine kj_pqa hx hb hts hK had hs hown hin2 (n0 := 287) (i := 18) (v := 304) (by rw [lnK]; decide) (by unfold ri_; omega) (tkk kK_286 (by decide)) fB_15_19 rfl ff_X12_122 dX12_init_343 (fun M1 e1 => ?_)
  subst e1
  have hf := jFr_up (c := 286) (i := 19) (v := ((304 : Nat) : Int)) hf (by decide)
  refine j_aload_n hO dX12_init_346 rfl 0 rfl ?_
  refine j_sipush hO dX12_init_347 (by decide) ?_
  refine kj_ai hx hb hts hK had hs hty.2.1 (n0 := 287) (i := 18) (N := 400) (n := 305) (i1 := 19) rfl rfl kK_305 rfl (by decide) om_1617 dX12_init_350 (Nat.le_of_ble_eq_true rfl) (jSl_m (by decide)) hf ?_
  have hf := jFr_w (n' := 306) hf (by decide)
  have hO := kj_ok (rm := ({ frames := 3, cells := 102, slots := jSl ftB ksK 389 - jSl ftB ksK 287, locals := 65 } : Room)) (ft := ftB) (Qs := Qs) (i := 19) (rk := 5) (post := fun _ _ => True) hc (by rw [lnK]; decide) (Nat.le_of_ble_eq_true rfl) (jSl_m (by decide)) (Or.inl rfl)
  refine kj_pqa hx hb hts hK had hs hown hin2 (n0 := 287) (i := 19) (v := 305) (by rw [lnK]; decide) (by unfold ri_; omega) (tkk kK_286 (by decide)) fB_15_21 rfl ff_X12_125 dX12_init_352 (fun M1 e1 => ?_)
  subst e1
  have hf := jFr_up (c := 286) (i := 21) (v := ((305 : Nat) : Int)) hf (by decide)
  refine j_aload_n hO dX12_init_355 rfl 0 rfl ?_
  refine j_sipush hO dX12_init_356 (by decide) ?_
  refine kj_ai hx hb hts hK had hs hty.2.1 (n0 := 287) (i := 19) (N := 400) (n := 306) (i1 := 20) rfl rfl kK_306 rfl (by decide) om_1617 dX12_init_359 (Nat.le_of_ble_eq_true rfl) (jSl_m (by decide)) hf ?_
  have hf := jFr_w (n' := 307) hf (by decide)
  have hO := kj_ok (rm := ({ frames := 3, cells := 102, slots := jSl ftB ksK 389 - jSl ftB ksK 287, locals := 65 } : Room)) (ft := ftB) (Qs := Qs) (i := 20) (rk := 5) (post := fun _ _ => True) hc (by rw [lnK]; decide) (Nat.le_of_ble_eq_true rfl) (jSl_m (by decide)) (Or.inl rfl)
  refine kj_pqa hx hb hts hK had hs hown hin2 (n0 := 287) (i := 20) (v := 306) (by rw [lnK]; decide) (by unfold ri_; omega) (tkk kK_286 (by decide)) fB_15_22 rfl ff_X12_128 dX12_init_361 (fun M1 e1 => ?_)
  subst e1
  have hf := jFr_up (c := 286) (i := 22) (v := ((306 : Nat) : Int)) hf (by decide)
  refine j_aload_n hO dX12_init_364 rfl 0 rfl ?_
  refine j_sipush hO dX12_init_365 (by decide) ?_
  refine kj_ai hx hb hts hK had hs hty.2.1 (n0 := 287) (i := 20) (N := 400) (n := 307) (i1 := 21) rfl rfl kK_307 rfl (by decide) om_1617 dX12_init_368 (Nat.le_of_ble_eq_true rfl) (jSl_m (by decide)) hf ?_
  have hf := jFr_w (n' := 308) hf (by decide)
  have hO := kj_ok (rm := ({ frames := 3, cells := 102, slots := jSl ftB ksK 389 - jSl ftB ksK 287, locals := 65 } : Room)) (ft := ftB) (Qs := Qs) (i := 21) (rk := 5) (post := fun _ _ => True) hc (by rw [lnK]; decide) (Nat.le_of_ble_eq_true rfl) (jSl_m (by decide)) (Or.inl rfl)
  refine kj_pqa hx hb hts hK had hs hown hin2 (n0 := 287) (i := 21) (v := 307) (by rw [lnK]; decide) (by unfold ri_; omega) (tkk kK_286 (by decide)) fB_15_23 rfl ff_X12_131 dX12_init_370 (fun M1 e1 => ?_)
  subst e1
  have hf := jFr_up (c := 286) (i := 23) (v := ((307 : Nat) : Int)) hf (by decide)
  refine j_aload_n hO dX12_init_373 rfl 0 rfl ?_
  refine j_sipush hO dX12_init_374 (by decide) ?_
  refine kj_az hx hb hts hK had hs hty.2.2.2 (n0 := 287) (i := 21) (N := 400) (n := 308) (i1 := 22) rfl rfl kK_308 rfl (by decide) om_1646 dX12_init_377 (Nat.le_of_ble_eq_true rfl) (jSl_m (by decide)) hf ?_
  have hf := jFr_w (n' := 309) hf (by decide)
  have hO := kj_ok (rm := ({ frames := 3, cells := 102, slots := jSl ftB ksK 389 - jSl ftB ksK 287, locals := 65 } : Room)) (ft := ftB) (Qs := Qs) (i := 22) (rk := 5) (post := fun _ _ => True) hc (by rw [lnK]; decide) (Nat.le_of_ble_eq_true rfl) (jSl_m (by decide)) (Or.inl rfl)
  refine kj_pqa hx hb hts hK had hs hown hin2 (n0 := 287) (i := 22) (v := 308) (by rw [lnK]; decide) (by unfold ri_; omega) (tkk kK_286 (by decide)) fB_15_24 rfl ff_X12_134 dX12_init_379 (fun M1 e1 => ?_)
  subst e1
  have hf := jFr_up (c := 286) (i := 24) (v := ((308 : Nat) : Int)) hf (by decide)
  refine j_aload_n hO dX12_init_382 rfl 0 rfl ?_
  refine j_ldc hO 38500 om_1894 (by decide) dX12_init_383 ?_
  refine kj_al hx hb hts hK had hs hty.2.2.1 (n0 := 287) (i := 22) (N := 38500) (n := 309) (i1 := 23) rfl rfl kK_309 rfl (by decide) om_1622 dX12_init_385 (Nat.le_of_ble_eq_true rfl) (jSl_m (by decide)) hf ?_
  have hf := jFr_w (n' := 310) hf (by decide)
  have hO := kj_ok (rm := ({ frames := 3, cells := 102, slots := jSl ftB ksK 389 - jSl ftB ksK 287, locals := 65 } : Room)) (ft := ftB) (Qs := Qs) (i := 23) (rk := 5) (post := fun _ _ => True) hc (by rw [lnK]; decide) (Nat.le_of_ble_eq_true rfl) (jSl_m (by decide)) (Or.inl rfl)
  refine kj_pqa hx hb hts hK had hs hown hin2 (n0 := 287) (i := 23) (v := 309) (by rw [lnK]; decide) (by unfold ri_; omega) (tkk kK_286 (by decide)) fB_15_25 rfl ff_X12_138 dX12_init_387 (fun M1 e1 => ?_)
  subst e1
  have hf := jFr_up (c := 286) (i := 25) (v := ((309 : Nat) : Int)) hf (by decide)
  refine j_aload_n hO dX12_init_390 rfl 0 rfl ?_
  refine j_bipush hO dX12_init_391 (by decide) ?_
  refine kj_ai hx hb hts hK had hs hty.2.1 (n0 := 287) (i := 23) (N := 12) (n := 310) (i1 := 24) rfl rfl kK_310 rfl (by decide) om_1617 dX12_init_393 (Nat.le_of_ble_eq_true rfl) (jSl_m (by decide)) hf ?_
  have hf := jFr_w (n' := 311) hf (by decide)
  have hO := kj_ok (rm := ({ frames := 3, cells := 102, slots := jSl ftB ksK 389 - jSl ftB ksK 287, locals := 65 } : Room)) (ft := ftB) (Qs := Qs) (i := 24) (rk := 5) (post := fun _ _ => True) hc (by rw [lnK]; decide) (Nat.le_of_ble_eq_true rfl) (jSl_m (by decide)) (Or.inl rfl)
  refine kj_pqa hx hb hts hK had hs hown hin2 (n0 := 287) (i := 24) (v := 310) (by rw [lnK]; decide) (by unfold ri_; omega) (tkk kK_286 (by decide)) fB_15_30 rfl ff_X12_141 dX12_init_395 (fun M1 e1 => ?_)
  subst e1
  have hf := jFr_up (c := 286) (i := 30) (v := ((310 : Nat) : Int)) hf (by decide)
  refine j_aload_n hO dX12_init_398 rfl 0 rfl ?_
  refine j_bipush hO dX12_init_399 (by decide) ?_
  refine kj_ai hx hb hts hK had hs hty.2.1 (n0 := 287) (i := 24) (N := 100) (n := 311) (i1 := 25) rfl rfl kK_311 rfl (by decide) om_1617 dX12_init_401 (Nat.le_of_ble_eq_true rfl) (jSl_m (by decide)) hf ?_
  have hf := jFr_w (n' := 312) hf (by decide)
  have hO := kj_ok (rm := ({ frames := 3, cells := 102, slots := jSl ftB ksK 389 - jSl ftB ksK 287, locals := 65 } : Room)) (ft := ftB) (Qs := Qs) (i := 25) (rk := 5) (post := fun _ _ => True) hc (by rw [lnK]; decide) (Nat.le_of_ble_eq_true rfl) (jSl_m (by decide)) (Or.inl rfl)
  refine kj_pqa hx hb hts hK had hs hown hin2 (n0 := 287) (i := 25) (v := 311) (by rw [lnK]; decide) (by unfold ri_; omega) (tkk kK_286 (by decide)) fB_15_32 rfl ff_X12_144 dX12_init_403 (fun M1 e1 => ?_)
  subst e1
  have hf := jFr_up (c := 286) (i := 32) (v := ((311 : Nat) : Int)) hf (by decide)
  refine j_aload_n hO dX12_init_406 rfl 0 rfl ?_
  refine j_bipush hO dX12_init_407 (by decide) ?_
  refine kj_ai hx hb hts hK had hs hty.2.1 (n0 := 287) (i := 25) (N := 100) (n := 312) (i1 := 26) rfl rfl kK_312 rfl (by decide) om_1617 dX12_init_409 (Nat.le_of_ble_eq_true rfl) (jSl_m (by decide)) hf ?_
  have hf := jFr_w (n' := 313) hf (by decide)
  have hO := kj_ok (rm := ({ frames := 3, cells := 102, slots := jSl ftB ksK 389 - jSl ftB ksK 287, locals := 65 } : Room)) (ft := ftB) (Qs := Qs) (i := 26) (rk := 5) (post := fun _ _ => True) hc (by rw [lnK]; decide) (Nat.le_of_ble_eq_true rfl) (jSl_m (by decide)) (Or.inl rfl)
  refine kj_pqa hx hb hts hK had hs hown hin2 (n0 := 287) (i := 26) (v := 312) (by rw [lnK]; decide) (by unfold ri_; omega) (tkk kK_286 (by decide)) fB_15_33 rfl ff_X12_147 dX12_init_411 (fun M1 e1 => ?_)
  subst e1
  have hf := jFr_up (c := 286) (i := 33) (v := ((312 : Nat) : Int)) hf (by decide)
  refine j_aload_n hO dX12_init_414 rfl 0 rfl ?_
  refine j_bipush hO dX12_init_415 (by decide) ?_
  refine kj_ai hx hb hts hK had hs hty.2.1 (n0 := 287) (i := 26) (N := 100) (n := 313) (i1 := 27) rfl rfl kK_313 rfl (by decide) om_1617 dX12_init_417 (Nat.le_of_ble_eq_true rfl) (jSl_m (by decide)) hf ?_
  have hf := jFr_w (n' := 314) hf (by decide)
  have hO := kj_ok (rm := ({ frames := 3, cells := 102, slots := jSl ftB ksK 389 - jSl ftB ksK 287, locals := 65 } : Room)) (ft := ftB) (Qs := Qs) (i := 27) (rk := 5) (post := fun _ _ => True) hc (by rw [lnK]; decide) (Nat.le_of_ble_eq_true rfl) (jSl_m (by decide)) (Or.inl rfl)
  refine kj_pqa hx hb hts hK had hs hown hin2 (n0 := 287) (i := 27) (v := 313) (by rw [lnK]; decide) (by unfold ri_; omega) (tkk kK_286 (by decide)) fB_15_34 rfl ff_X12_150 dX12_init_419 (fun M1 e1 => ?_)
  subst e1
  have hf := jFr_up (c := 286) (i := 34) (v := ((313 : Nat) : Int)) hf (by decide)
  refine j_aload_n hO dX12_init_422 rfl 0 rfl ?_
  refine j_bipush hO dX12_init_423 (by decide) ?_
  refine kj_al hx hb hts hK had hs hty.2.2.1 (n0 := 287) (i := 27) (N := 100) (n := 314) (i1 := 28) rfl rfl kK_314 rfl (by decide) om_1622 dX12_init_425 (Nat.le_of_ble_eq_true rfl) (jSl_m (by decide)) hf ?_
  have hf := jFr_w (n' := 315) hf (by decide)
  have hO := kj_ok (rm := ({ frames := 3, cells := 102, slots := jSl ftB ksK 389 - jSl ftB ksK 287, locals := 65 } : Room)) (ft := ftB) (Qs := Qs) (i := 28) (rk := 5) (post := fun _ _ => True) hc (by rw [lnK]; decide) (Nat.le_of_ble_eq_true rfl) (jSl_m (by decide)) (Or.inl rfl)
  refine kj_pqa hx hb hts hK had hs hown hin2 (n0 := 287) (i := 28) (v := 314) (by rw [lnK]; decide) (by unfold ri_; omega) (tkk kK_286 (by decide)) fB_15_35 rfl ff_X12_153 dX12_init_427 (fun M1 e1 => ?_)
  subst e1
  have hf := jFr_up (c := 286) (i := 35) (v := ((314 : Nat) : Int)) hf (by decide)
  refine j_aload_n hO dX12_init_430 rfl 0 rfl ?_
  refine j_bipush hO dX12_init_431 (by decide) ?_
  refine kj_ai hx hb hts hK had hs hty.2.1 (n0 := 287) (i := 28) (N := 6) (n := 315) (i1 := 29) rfl rfl kK_315 rfl (by decide) om_1617 dX12_init_433 (Nat.le_of_ble_eq_true rfl) (jSl_m (by decide)) hf ?_
  have hf := jFr_w (n' := 316) hf (by decide)
  have hO := kj_ok (rm := ({ frames := 3, cells := 102, slots := jSl ftB ksK 389 - jSl ftB ksK 287, locals := 65 } : Room)) (ft := ftB) (Qs := Qs) (i := 29) (rk := 5) (post := fun _ _ => True) hc (by rw [lnK]; decide) (Nat.le_of_ble_eq_true rfl) (jSl_m (by decide)) (Or.inl rfl)
  refine kj_pqa hx hb hts hK had hs hown hin2 (n0 := 287) (i := 29) (v := 315) (by rw [lnK]; decide) (by unfold ri_; omega) (tkk kK_286 (by decide)) fB_15_37 rfl ff_X12_156 dX12_init_435 (fun M1 e1 => ?_)
  subst e1
  have hf := jFr_up (c := 286) (i := 37) (v := ((315 : Nat) : Int)) hf (by decide)
  refine j_aload_n hO dX12_init_438 rfl 0 rfl ?_
  refine j_bipush hO dX12_init_439 (by decide) ?_
  refine kj_ai hx hb hts hK had hs hty.2.1 (n0 := 287) (i := 29) (N := 6) (n := 316) (i1 := 30) rfl rfl kK_316 rfl (by decide) om_1617 dX12_init_441 (Nat.le_of_ble_eq_true rfl) (jSl_m (by decide)) hf ?_
  have hf := jFr_w (n' := 317) hf (by decide)
  have hO := kj_ok (rm := ({ frames := 3, cells := 102, slots := jSl ftB ksK 389 - jSl ftB ksK 287, locals := 65 } : Room)) (ft := ftB) (Qs := Qs) (i := 30) (rk := 5) (post := fun _ _ => True) hc (by rw [lnK]; decide) (Nat.le_of_ble_eq_true rfl) (jSl_m (by decide)) (Or.inl rfl)
  refine kj_pqa hx hb hts hK had hs hown hin2 (n0 := 287) (i := 30) (v := 316) (by rw [lnK]; decide) (by unfold ri_; omega) (tkk kK_286 (by decide)) fB_15_38 rfl ff_X12_159 dX12_init_443 (fun M1 e1 => ?_)
  subst e1
  have hf := jFr_up (c := 286) (i := 38) (v := ((316 : Nat) : Int)) hf (by decide)
  refine j_aload_n hO dX12_init_446 rfl 0 rfl ?_
  refine j_bipush hO dX12_init_447 (by decide) ?_
  refine kj_ai hx hb hts hK had hs hty.2.1 (n0 := 287) (i := 30) (N := 6) (n := 317) (i1 := 31) rfl rfl kK_317 rfl (by decide) om_1617 dX12_init_449 (Nat.le_of_ble_eq_true rfl) (jSl_m (by decide)) hf ?_
  have hf := jFr_w (n' := 318) hf (by decide)
  have hO := kj_ok (rm := ({ frames := 3, cells := 102, slots := jSl ftB ksK 389 - jSl ftB ksK 287, locals := 65 } : Room)) (ft := ftB) (Qs := Qs) (i := 31) (rk := 5) (post := fun _ _ => True) hc (by rw [lnK]; decide) (Nat.le_of_ble_eq_true rfl) (jSl_m (by decide)) (Or.inl rfl)
  refine kj_pqa hx hb hts hK had hs hown hin2 (n0 := 287) (i := 31) (v := 317) (by rw [lnK]; decide) (by unfold ri_; omega) (tkk kK_286 (by decide)) fB_15_39 rfl ff_X12_162 dX12_init_451 (fun M1 e1 => ?_)
  subst e1
  have hf := jFr_up (c := 286) (i := 39) (v := ((317 : Nat) : Int)) hf (by decide)
  refine j_aload_n hO dX12_init_454 rfl 0 rfl ?_
  refine j_bipush hO dX12_init_455 (by decide) ?_
  refine kj_ai hx hb hts hK had hs hty.2.1 (n0 := 287) (i := 31) (N := 36) (n := 318) (i1 := 32) rfl rfl kK_318 rfl (by decide) om_1617 dX12_init_457 (Nat.le_of_ble_eq_true rfl) (jSl_m (by decide)) hf ?_
  have hf := jFr_w (n' := 319) hf (by decide)
  have hO := kj_ok (rm := ({ frames := 3, cells := 102, slots := jSl ftB ksK 389 - jSl ftB ksK 287, locals := 65 } : Room)) (ft := ftB) (Qs := Qs) (i := 32) (rk := 5) (post := fun _ _ => True) hc (by rw [lnK]; decide) (Nat.le_of_ble_eq_true rfl) (jSl_m (by decide)) (Or.inl rfl)
  refine kj_pqa hx hb hts hK had hs hown hin2 (n0 := 287) (i := 32) (v := 318) (by rw [lnK]; decide) (by unfold ri_; omega) (tkk kK_286 (by decide)) fB_15_40 rfl ff_X12_165 dX12_init_459 (fun M1 e1 => ?_)
  subst e1
  have hf := jFr_up (c := 286) (i := 40) (v := ((318 : Nat) : Int)) hf (by decide)
  refine j_aload_n hO dX12_init_462 rfl 0 rfl ?_
  refine j_bipush hO dX12_init_463 (by decide) ?_
  refine kj_ai hx hb hts hK had hs hty.2.1 (n0 := 287) (i := 32) (N := 36) (n := 319) (i1 := 33) rfl rfl kK_319 rfl (by decide) om_1617 dX12_init_465 (Nat.le_of_ble_eq_true rfl) (jSl_m (by decide)) hf ?_
  have hf := jFr_w (n' := 320) hf (by decide)
  have hO := kj_ok (rm := ({ frames := 3, cells := 102, slots := jSl ftB ksK 389 - jSl ftB ksK 287, locals := 65 } : Room)) (ft := ftB) (Qs := Qs) (i := 33) (rk := 5) (post := fun _ _ => True) hc (by rw [lnK]; decide) (Nat.le_of_ble_eq_true rfl) (jSl_m (by decide)) (Or.inl rfl)
  refine kj_pqa hx hb hts hK had hs hown hin2 (n0 := 287) (i := 33) (v := 319) (by rw [lnK]; decide) (by unfold ri_; omega) (tkk kK_286 (by decide)) fB_15_41 rfl ff_X12_168 dX12_init_467 (fun M1 e1 => ?_)
  subst e1
  have hf := jFr_up (c := 286) (i := 41) (v := ((319 : Nat) : Int)) hf (by decide)
  refine j_aload_n hO dX12_init_470 rfl 0 rfl ?_
  refine j_bipush hO dX12_init_471 (by decide) ?_
  refine kj_al hx hb hts hK had hs hty.2.2.1 (n0 := 287) (i := 33) (N := 36) (n := 320) (i1 := 34) rfl rfl kK_320 rfl (by decide) om_1622 dX12_init_473 (Nat.le_of_ble_eq_true rfl) (jSl_m (by decide)) hf ?_
  have hf := jFr_w (n' := 321) hf (by decide)
  have hO := kj_ok (rm := ({ frames := 3, cells := 102, slots := jSl ftB ksK 389 - jSl ftB ksK 287, locals := 65 } : Room)) (ft := ftB) (Qs := Qs) (i := 34) (rk := 5) (post := fun _ _ => True) hc (by rw [lnK]; decide) (Nat.le_of_ble_eq_true rfl) (jSl_m (by decide)) (Or.inl rfl)
  refine kj_pqa hx hb hts hK had hs hown hin2 (n0 := 287) (i := 34) (v := 320) (by rw [lnK]; decide) (by unfold ri_; omega) (tkk kK_286 (by decide)) fB_15_42 rfl ff_X12_171 dX12_init_475 (fun M1 e1 => ?_)
  subst e1
  have hf := jFr_up (c := 286) (i := 42) (v := ((320 : Nat) : Int)) hf (by decide)
  refine j_aload_n hO dX12_init_478 rfl 0 rfl ?_
  refine j_bipush hO dX12_init_479 (by decide) ?_
  refine kj_al hx hb hts hK had hs hty.2.2.1 (n0 := 287) (i := 34) (N := 36) (n := 321) (i1 := 35) rfl rfl kK_321 rfl (by decide) om_1622 dX12_init_481 (Nat.le_of_ble_eq_true rfl) (jSl_m (by decide)) hf ?_
  have hf := jFr_w (n' := 322) hf (by decide)
  have hO := kj_ok (rm := ({ frames := 3, cells := 102, slots := jSl ftB ksK 389 - jSl ftB ksK 287, locals := 65 } : Room)) (ft := ftB) (Qs := Qs) (i := 35) (rk := 5) (post := fun _ _ => True) hc (by rw [lnK]; decide) (Nat.le_of_ble_eq_true rfl) (jSl_m (by decide)) (Or.inl rfl)
  refine kj_pqa hx hb hts hK had hs hown hin2 (n0 := 287) (i := 35) (v := 321) (by rw [lnK]; decide) (by unfold ri_; omega) (tkk kK_286 (by decide)) fB_15_43 rfl ff_X12_174 dX12_init_483 (fun M1 e1 => ?_)
  subst e1
  have hf := jFr_up (c := 286) (i := 43) (v := ((321 : Nat) : Int)) hf (by decide)
  refine j_aload_n hO dX12_init_486 rfl 0 rfl ?_
  refine j_sipush hO dX12_init_487 (by decide) ?_
  refine kj_ai hx hb hts hK had hs hty.2.1 (n0 := 287) (i := 35) (N := 400) (n := 322) (i1 := 36) rfl rfl kK_322 rfl (by decide) om_1617 dX12_init_490 (Nat.le_of_ble_eq_true rfl) (jSl_m (by decide)) hf ?_
  have hf := jFr_w (n' := 323) hf (by decide)
  have hO := kj_ok (rm := ({ frames := 3, cells := 102, slots := jSl ftB ksK 389 - jSl ftB ksK 287, locals := 65 } : Room)) (ft := ftB) (Qs := Qs) (i := 36) (rk := 5) (post := fun _ _ => True) hc (by rw [lnK]; decide) (Nat.le_of_ble_eq_true rfl) (jSl_m (by decide)) (Or.inl rfl)
  refine kj_pqa hx hb hts hK had hs hown hin2 (n0 := 287) (i := 36) (v := 322) (by rw [lnK]; decide) (by unfold ri_; omega) (tkk kK_286 (by decide)) fB_15_45 rfl ff_X12_177 dX12_init_492 (fun M1 e1 => ?_)
  subst e1
  have hf := jFr_up (c := 286) (i := 45) (v := ((322 : Nat) : Int)) hf (by decide)
  refine j_aload_n hO dX12_init_495 rfl 0 rfl ?_
  refine j_sipush hO dX12_init_496 (by decide) ?_
  refine kj_ai hx hb hts hK had hs hty.2.1 (n0 := 287) (i := 36) (N := 400) (n := 323) (i1 := 37) rfl rfl kK_323 rfl (by decide) om_1617 dX12_init_499 (Nat.le_of_ble_eq_true rfl) (jSl_m (by decide)) hf ?_
  have hf := jFr_w (n' := 324) hf (by decide)
  have hO := kj_ok (rm := ({ frames := 3, cells := 102, slots := jSl ftB ksK 389 - jSl ftB ksK 287, locals := 65 } : Room)) (ft := ftB) (Qs := Qs) (i := 37) (rk := 5) (post := fun _ _ => True) hc (by rw [lnK]; decide) (Nat.le_of_ble_eq_true rfl) (jSl_m (by decide)) (Or.inl rfl)
  refine kj_pqa hx hb hts hK had hs hown hin2 (n0 := 287) (i := 37) (v := 323) (by rw [lnK]; decide) (by unfold ri_; omega) (tkk kK_286 (by decide)) fB_15_46 rfl ff_X12_180 dX12_init_501 (fun M1 e1 => ?_)
  subst e1
  have hf := jFr_up (c := 286) (i := 46) (v := ((323 : Nat) : Int)) hf (by decide)
  refine j_aload_n hO dX12_init_504 rfl 0 rfl ?_
  refine j_iconst hO dX12_init_505 ?_
  refine kj_ai hx hb hts hK had hs hty.2.1 (n0 := 287) (i := 37) (N := 5) (n := 324) (i1 := 38) rfl rfl kK_324 rfl (by decide) om_1617 dX12_init_506 (Nat.le_of_ble_eq_true rfl) (jSl_m (by decide)) hf ?_
  have hf := jFr_w (n' := 325) hf (by decide)
  have hO := kj_ok (rm := ({ frames := 3, cells := 102, slots := jSl ftB ksK 389 - jSl ftB ksK 287, locals := 65 } : Room)) (ft := ftB) (Qs := Qs) (i := 38) (rk := 5) (post := fun _ _ => True) hc (by rw [lnK]; decide) (Nat.le_of_ble_eq_true rfl) (jSl_m (by decide)) (Or.inl rfl)
  refine kj_pqa hx hb hts hK had hs hown hin2 (n0 := 287) (i := 38) (v := 324) (by rw [lnK]; decide) (by unfold ri_; omega) (tkk kK_286 (by decide)) fB_15_48 rfl ff_X12_183 dX12_init_508 (fun M1 e1 => ?_)
  subst e1
  have hf := jFr_up (c := 286) (i := 48) (v := ((324 : Nat) : Int)) hf (by decide)
  refine j_aload_n hO dX12_init_511 rfl 0 rfl ?_
  refine j_sipush hO dX12_init_512 (by decide) ?_
  refine kj_ai hx hb hts hK had hs hty.2.1 (n0 := 287) (i := 38) (N := 2000) (n := 325) (i1 := 39) rfl rfl kK_325 rfl (by decide) om_1617 dX12_init_515 (Nat.le_of_ble_eq_true rfl) (jSl_m (by decide)) hf ?_
  have hf := jFr_w (n' := 326) hf (by decide)
  have hO := kj_ok (rm := ({ frames := 3, cells := 102, slots := jSl ftB ksK 389 - jSl ftB ksK 287, locals := 65 } : Room)) (ft := ftB) (Qs := Qs) (i := 39) (rk := 5) (post := fun _ _ => True) hc (by rw [lnK]; decide) (Nat.le_of_ble_eq_true rfl) (jSl_m (by decide)) (Or.inl rfl)
  refine kj_pqa hx hb hts hK had hs hown hin2 (n0 := 287) (i := 39) (v := 325) (by rw [lnK]; decide) (by unfold ri_; omega) (tkk kK_286 (by decide)) fB_15_49 rfl ff_X12_186 dX12_init_517 (fun M1 e1 => ?_)
  subst e1
  have hf := jFr_up (c := 286) (i := 49) (v := ((325 : Nat) : Int)) hf (by decide)
  refine j_aload_n hO dX12_init_520 rfl 0 rfl ?_
  refine j_sipush hO dX12_init_521 (by decide) ?_
  refine kj_ai hx hb hts hK had hs hty.2.1 (n0 := 287) (i := 39) (N := 2000) (n := 326) (i1 := 40) rfl rfl kK_326 rfl (by decide) om_1617 dX12_init_524 (Nat.le_of_ble_eq_true rfl) (jSl_m (by decide)) hf ?_
  have hf := jFr_w (n' := 327) hf (by decide)
  have hO := kj_ok (rm := ({ frames := 3, cells := 102, slots := jSl ftB ksK 389 - jSl ftB ksK 287, locals := 65 } : Room)) (ft := ftB) (Qs := Qs) (i := 40) (rk := 5) (post := fun _ _ => True) hc (by rw [lnK]; decide) (Nat.le_of_ble_eq_true rfl) (jSl_m (by decide)) (Or.inl rfl)
  refine kj_pqa hx hb hts hK had hs hown hin2 (n0 := 287) (i := 40) (v := 326) (by rw [lnK]; decide) (by unfold ri_; omega) (tkk kK_286 (by decide)) fB_15_50 rfl ff_X12_189 dX12_init_526 (fun M1 e1 => ?_)
  subst e1
  have hf := jFr_up (c := 286) (i := 50) (v := ((326 : Nat) : Int)) hf (by decide)
  refine j_aload_n hO dX12_init_529 rfl 0 rfl ?_
  refine j_sipush hO dX12_init_530 (by decide) ?_
  refine kj_ai hx hb hts hK had hs hty.2.1 (n0 := 287) (i := 40) (N := 2000) (n := 327) (i1 := 41) rfl rfl kK_327 rfl (by decide) om_1617 dX12_init_533 (Nat.le_of_ble_eq_true rfl) (jSl_m (by decide)) hf ?_
  have hf := jFr_w (n' := 328) hf (by decide)
  have hO := kj_ok (rm := ({ frames := 3, cells := 102, slots := jSl ftB ksK 389 - jSl ftB ksK 287, locals := 65 } : Room)) (ft := ftB) (Qs := Qs) (i := 41) (rk := 5) (post := fun _ _ => True) hc (by rw [lnK]; decide) (Nat.le_of_ble_eq_true rfl) (jSl_m (by decide)) (Or.inl rfl)
  refine kj_pqa hx hb hts hK had hs hown hin2 (n0 := 287) (i := 41) (v := 327) (by rw [lnK]; decide) (by unfold ri_; omega) (tkk kK_286 (by decide)) fB_15_51 rfl ff_X12_192 dX12_init_535 (fun M1 e1 => ?_)
  subst e1
  have hf := jFr_up (c := 286) (i := 51) (v := ((327 : Nat) : Int)) hf (by decide)
  refine j_aload_n hO dX12_init_538 rfl 0 rfl ?_
  refine j_sipush hO dX12_init_539 (by decide) ?_
  refine kj_ai hx hb hts hK had hs hty.2.1 (n0 := 287) (i := 41) (N := 2000) (n := 328) (i1 := 42) rfl rfl kK_328 rfl (by decide) om_1617 dX12_init_542 (Nat.le_of_ble_eq_true rfl) (jSl_m (by decide)) hf ?_
  have hf := jFr_w (n' := 329) hf (by decide)
  have hO := kj_ok (rm := ({ frames := 3, cells := 102, slots := jSl ftB ksK 389 - jSl ftB ksK 287, locals := 65 } : Room)) (ft := ftB) (Qs := Qs) (i := 42) (rk := 5) (post := fun _ _ => True) hc (by rw [lnK]; decide) (Nat.le_of_ble_eq_true rfl) (jSl_m (by decide)) (Or.inl rfl)
  refine kj_pqa hx hb hts hK had hs hown hin2 (n0 := 287) (i := 42) (v := 328) (by rw [lnK]; decide) (by unfold ri_; omega) (tkk kK_286 (by decide)) fB_15_52 rfl ff_X12_195 dX12_init_544 (fun M1 e1 => ?_)
  subst e1
  have hf := jFr_up (c := 286) (i := 52) (v := ((328 : Nat) : Int)) hf (by decide)
  refine j_aload_n hO dX12_init_547 rfl 0 rfl ?_
  refine j_sipush hO dX12_init_548 (by decide) ?_
  refine kj_ai hx hb hts hK had hs hty.2.1 (n0 := 287) (i := 42) (N := 2000) (n := 329) (i1 := 43) rfl rfl kK_329 rfl (by decide) om_1617 dX12_init_551 (Nat.le_of_ble_eq_true rfl) (jSl_m (by decide)) hf ?_
  have hf := jFr_w (n' := 330) hf (by decide)
  have hO := kj_ok (rm := ({ frames := 3, cells := 102, slots := jSl ftB ksK 389 - jSl ftB ksK 287, locals := 65 } : Room)) (ft := ftB) (Qs := Qs) (i := 43) (rk := 5) (post := fun _ _ => True) hc (by rw [lnK]; decide) (Nat.le_of_ble_eq_true rfl) (jSl_m (by decide)) (Or.inl rfl)
  refine kj_pqa hx hb hts hK had hs hown hin2 (n0 := 287) (i := 43) (v := 329) (by rw [lnK]; decide) (by unfold ri_; omega) (tkk kK_286 (by decide)) fB_15_53 rfl ff_X12_198 dX12_init_553 (fun M1 e1 => ?_)
  subst e1
  have hf := jFr_up (c := 286) (i := 53) (v := ((329 : Nat) : Int)) hf (by decide)
  refine j_aload_n hO dX12_init_556 rfl 0 rfl ?_
  refine j_sipush hO dX12_init_557 (by decide) ?_
  refine kj_ai hx hb hts hK had hs hty.2.1 (n0 := 287) (i := 43) (N := 2000) (n := 330) (i1 := 44) rfl rfl kK_330 rfl (by decide) om_1617 dX12_init_560 (Nat.le_of_ble_eq_true rfl) (jSl_m (by decide)) hf ?_
  have hf := jFr_w (n' := 331) hf (by decide)
  have hO := kj_ok (rm := ({ frames := 3, cells := 102, slots := jSl ftB ksK 389 - jSl ftB ksK 287, locals := 65 } : Room)) (ft := ftB) (Qs := Qs) (i := 44) (rk := 5) (post := fun _ _ => True) hc (by rw [lnK]; decide) (Nat.le_of_ble_eq_true rfl) (jSl_m (by decide)) (Or.inl rfl)
  refine kj_pqa hx hb hts hK had hs hown hin2 (n0 := 287) (i := 44) (v := 330) (by rw [lnK]; decide) (by unfold ri_; omega) (tkk kK_286 (by decide)) fB_15_54 rfl ff_X12_201 dX12_init_562 (fun M1 e1 => ?_)
  subst e1
  have hf := jFr_up (c := 286) (i := 54) (v := ((330 : Nat) : Int)) hf (by decide)
  refine j_aload_n hO dX12_init_565 rfl 0 rfl ?_
  refine j_sipush hO dX12_init_566 (by decide) ?_
  refine kj_ai hx hb hts hK had hs hty.2.1 (n0 := 287) (i := 44) (N := 2000) (n := 331) (i1 := 45) rfl rfl kK_331 rfl (by decide) om_1617 dX12_init_569 (Nat.le_of_ble_eq_true rfl) (jSl_m (by decide)) hf ?_
  have hf := jFr_w (n' := 332) hf (by decide)
  have hO := kj_ok (rm := ({ frames := 3, cells := 102, slots := jSl ftB ksK 389 - jSl ftB ksK 287, locals := 65 } : Room)) (ft := ftB) (Qs := Qs) (i := 45) (rk := 5) (post := fun _ _ => True) hc (by rw [lnK]; decide) (Nat.le_of_ble_eq_true rfl) (jSl_m (by decide)) (Or.inl rfl)
  refine kj_pqa hx hb hts hK had hs hown hin2 (n0 := 287) (i := 45) (v := 331) (by rw [lnK]; decide) (by unfold ri_; omega) (tkk kK_286 (by decide)) fB_15_55 rfl ff_X12_204 dX12_init_571 (fun M1 e1 => ?_)
  subst e1
  have hf := jFr_up (c := 286) (i := 55) (v := ((331 : Nat) : Int)) hf (by decide)
  refine j_aload_n hO dX12_init_574 rfl 0 rfl ?_
  refine j_sipush hO dX12_init_575 (by decide) ?_
  refine kj_ai hx hb hts hK had hs hty.2.1 (n0 := 287) (i := 45) (N := 2000) (n := 332) (i1 := 46) rfl rfl kK_332 rfl (by decide) om_1617 dX12_init_578 (Nat.le_of_ble_eq_true rfl) (jSl_m (by decide)) hf ?_
  have hf := jFr_w (n' := 333) hf (by decide)
  have hO := kj_ok (rm := ({ frames := 3, cells := 102, slots := jSl ftB ksK 389 - jSl ftB ksK 287, locals := 65 } : Room)) (ft := ftB) (Qs := Qs) (i := 46) (rk := 5) (post := fun _ _ => True) hc (by rw [lnK]; decide) (Nat.le_of_ble_eq_true rfl) (jSl_m (by decide)) (Or.inl rfl)
  refine kj_pqa hx hb hts hK had hs hown hin2 (n0 := 287) (i := 46) (v := 332) (by rw [lnK]; decide) (by unfold ri_; omega) (tkk kK_286 (by decide)) fB_15_56 rfl ff_X12_207 dX12_init_580 (fun M1 e1 => ?_)
  subst e1
  have hf := jFr_up (c := 286) (i := 56) (v := ((332 : Nat) : Int)) hf (by decide)
  refine j_aload_n hO dX12_init_583 rfl 0 rfl ?_
  refine j_sipush hO dX12_init_584 (by decide) ?_
  refine kj_ai hx hb hts hK had hs hty.2.1 (n0 := 287) (i := 46) (N := 2000) (n := 333) (i1 := 47) rfl rfl kK_333 rfl (by decide) om_1617 dX12_init_587 (Nat.le_of_ble_eq_true rfl) (jSl_m (by decide)) hf ?_
  have hf := jFr_w (n' := 334) hf (by decide)
  have hO := kj_ok (rm := ({ frames := 3, cells := 102, slots := jSl ftB ksK 389 - jSl ftB ksK 287, locals := 65 } : Room)) (ft := ftB) (Qs := Qs) (i := 47) (rk := 5) (post := fun _ _ => True) hc (by rw [lnK]; decide) (Nat.le_of_ble_eq_true rfl) (jSl_m (by decide)) (Or.inl rfl)
  refine kj_pqa hx hb hts hK had hs hown hin2 (n0 := 287) (i := 47) (v := 333) (by rw [lnK]; decide) (by unfold ri_; omega) (tkk kK_286 (by decide)) fB_15_57 rfl ff_X12_210 dX12_init_589 (fun M1 e1 => ?_)
  subst e1
  have hf := jFr_up (c := 286) (i := 57) (v := ((333 : Nat) : Int)) hf (by decide)
  refine j_aload_n hO dX12_init_592 rfl 0 rfl ?_
  refine j_sipush hO dX12_init_593 (by decide) ?_
  refine kj_ai hx hb hts hK had hs hty.2.1 (n0 := 287) (i := 47) (N := 2000) (n := 334) (i1 := 48) rfl rfl kK_334 rfl (by decide) om_1617 dX12_init_596 (Nat.le_of_ble_eq_true rfl) (jSl_m (by decide)) hf ?_
  have hf := jFr_w (n' := 335) hf (by decide)
  have hO := kj_ok (rm := ({ frames := 3, cells := 102, slots := jSl ftB ksK 389 - jSl ftB ksK 287, locals := 65 } : Room)) (ft := ftB) (Qs := Qs) (i := 48) (rk := 5) (post := fun _ _ => True) hc (by rw [lnK]; decide) (Nat.le_of_ble_eq_true rfl) (jSl_m (by decide)) (Or.inl rfl)
  refine kj_pqa hx hb hts hK had hs hown hin2 (n0 := 287) (i := 48) (v := 334) (by rw [lnK]; decide) (by unfold ri_; omega) (tkk kK_286 (by decide)) fB_15_58 rfl ff_X12_213 dX12_init_598 (fun M1 e1 => ?_)
  subst e1
  have hf := jFr_up (c := 286) (i := 58) (v := ((334 : Nat) : Int)) hf (by decide)
  refine j_aload_n hO dX12_init_601 rfl 0 rfl ?_
  refine j_sipush hO dX12_init_602 (by decide) ?_
  refine kj_ai hx hb hts hK had hs hty.2.1 (n0 := 287) (i := 48) (N := 2000) (n := 335) (i1 := 49) rfl rfl kK_335 rfl (by decide) om_1617 dX12_init_605 (Nat.le_of_ble_eq_true rfl) (jSl_m (by decide)) hf ?_
  have hf := jFr_w (n' := 336) hf (by decide)
  have hO := kj_ok (rm := ({ frames := 3, cells := 102, slots := jSl ftB ksK 389 - jSl ftB ksK 287, locals := 65 } : Room)) (ft := ftB) (Qs := Qs) (i := 49) (rk := 5) (post := fun _ _ => True) hc (by rw [lnK]; decide) (Nat.le_of_ble_eq_true rfl) (jSl_m (by decide)) (Or.inl rfl)
  refine kj_pqa hx hb hts hK had hs hown hin2 (n0 := 287) (i := 49) (v := 335) (by rw [lnK]; decide) (by unfold ri_; omega) (tkk kK_286 (by decide)) fB_15_59 rfl ff_X12_216 dX12_init_607 (fun M1 e1 => ?_)
  subst e1
  have hf := jFr_up (c := 286) (i := 59) (v := ((335 : Nat) : Int)) hf (by decide)
  refine j_aload_n hO dX12_init_610 rfl 0 rfl ?_
  refine j_sipush hO dX12_init_611 (by decide) ?_
  refine kj_ai hx hb hts hK had hs hty.2.1 (n0 := 287) (i := 49) (N := 2000) (n := 336) (i1 := 50) rfl rfl kK_336 rfl (by decide) om_1617 dX12_init_614 (Nat.le_of_ble_eq_true rfl) (jSl_m (by decide)) hf ?_
  have hf := jFr_w (n' := 337) hf (by decide)
  have hO := kj_ok (rm := ({ frames := 3, cells := 102, slots := jSl ftB ksK 389 - jSl ftB ksK 287, locals := 65 } : Room)) (ft := ftB) (Qs := Qs) (i := 50) (rk := 5) (post := fun _ _ => True) hc (by rw [lnK]; decide) (Nat.le_of_ble_eq_true rfl) (jSl_m (by decide)) (Or.inl rfl)
  refine kj_pqa hx hb hts hK had hs hown hin2 (n0 := 287) (i := 50) (v := 336) (by rw [lnK]; decide) (by unfold ri_; omega) (tkk kK_286 (by decide)) fB_15_60 rfl ff_X12_219 dX12_init_616 (fun M1 e1 => ?_)
  subst e1
  have hf := jFr_up (c := 286) (i := 60) (v := ((336 : Nat) : Int)) hf (by decide)
  refine j_aload_n hO dX12_init_619 rfl 0 rfl ?_
  refine j_sipush hO dX12_init_620 (by decide) ?_
  refine kj_ai hx hb hts hK had hs hty.2.1 (n0 := 287) (i := 50) (N := 2000) (n := 337) (i1 := 51) rfl rfl kK_337 rfl (by decide) om_1617 dX12_init_623 (Nat.le_of_ble_eq_true rfl) (jSl_m (by decide)) hf ?_
  have hf := jFr_w (n' := 338) hf (by decide)
  have hO := kj_ok (rm := ({ frames := 3, cells := 102, slots := jSl ftB ksK 389 - jSl ftB ksK 287, locals := 65 } : Room)) (ft := ftB) (Qs := Qs) (i := 51) (rk := 5) (post := fun _ _ => True) hc (by rw [lnK]; decide) (Nat.le_of_ble_eq_true rfl) (jSl_m (by decide)) (Or.inl rfl)
  refine kj_pqa hx hb hts hK had hs hown hin2 (n0 := 287) (i := 51) (v := 337) (by rw [lnK]; decide) (by unfold ri_; omega) (tkk kK_286 (by decide)) fB_15_61 rfl ff_X12_222 dX12_init_625 (fun M1 e1 => ?_)
  subst e1
  have hf := jFr_up (c := 286) (i := 61) (v := ((337 : Nat) : Int)) hf (by decide)
  refine j_aload_n hO dX12_init_628 rfl 0 rfl ?_
  refine j_iconst hO dX12_init_629 ?_
  refine kj_ai hx hb hts hK had hs hty.2.1 (n0 := 287) (i := 51) (N := 5) (n := 338) (i1 := 52) rfl rfl kK_338 rfl (by decide) om_1617 dX12_init_630 (Nat.le_of_ble_eq_true rfl) (jSl_m (by decide)) hf ?_
  have hf := jFr_w (n' := 339) hf (by decide)
  have hO := kj_ok (rm := ({ frames := 3, cells := 102, slots := jSl ftB ksK 389 - jSl ftB ksK 287, locals := 65 } : Room)) (ft := ftB) (Qs := Qs) (i := 52) (rk := 5) (post := fun _ _ => True) hc (by rw [lnK]; decide) (Nat.le_of_ble_eq_true rfl) (jSl_m (by decide)) (Or.inl rfl)
  refine kj_pqa hx hb hts hK had hs hown hin2 (n0 := 287) (i := 52) (v := 338) (by rw [lnK]; decide) (by unfold ri_; omega) (tkk kK_286 (by decide)) fB_15_62 rfl ff_X12_225 dX12_init_632 (fun M1 e1 => ?_)
  subst e1
  have hf := jFr_up (c := 286) (i := 62) (v := ((338 : Nat) : Int)) hf (by decide)
  refine j_aload_n hO dX12_init_635 rfl 0 rfl ?_
  refine j_iconst hO dX12_init_636 ?_
  refine kj_ai hx hb hts hK had hs hty.2.1 (n0 := 287) (i := 52) (N := 5) (n := 339) (i1 := 53) rfl rfl kK_339 rfl (by decide) om_1617 dX12_init_637 (Nat.le_of_ble_eq_true rfl) (jSl_m (by decide)) hf ?_
  have hf := jFr_w (n' := 340) hf (by decide)
  have hO := kj_ok (rm := ({ frames := 3, cells := 102, slots := jSl ftB ksK 389 - jSl ftB ksK 287, locals := 65 } : Room)) (ft := ftB) (Qs := Qs) (i := 53) (rk := 5) (post := fun _ _ => True) hc (by rw [lnK]; decide) (Nat.le_of_ble_eq_true rfl) (jSl_m (by decide)) (Or.inl rfl)
  refine kj_pqa hx hb hts hK had hs hown hin2 (n0 := 287) (i := 53) (v := 339) (by rw [lnK]; decide) (by unfold ri_; omega) (tkk kK_286 (by decide)) fB_15_63 rfl ff_X12_228 dX12_init_639 (fun M1 e1 => ?_)
  subst e1
  have hf := jFr_up (c := 286) (i := 63) (v := ((339 : Nat) : Int)) hf (by decide)
  refine j_aload_n hO dX12_init_642 rfl 0 rfl ?_
  refine j_iconst hO dX12_init_643 ?_
  refine kj_ai hx hb hts hK had hs hty.2.1 (n0 := 287) (i := 53) (N := 5) (n := 340) (i1 := 54) rfl rfl kK_340 rfl (by decide) om_1617 dX12_init_644 (Nat.le_of_ble_eq_true rfl) (jSl_m (by decide)) hf ?_
  have hf := jFr_w (n' := 341) hf (by decide)
  have hO := kj_ok (rm := ({ frames := 3, cells := 102, slots := jSl ftB ksK 389 - jSl ftB ksK 287, locals := 65 } : Room)) (ft := ftB) (Qs := Qs) (i := 54) (rk := 5) (post := fun _ _ => True) hc (by rw [lnK]; decide) (Nat.le_of_ble_eq_true rfl) (jSl_m (by decide)) (Or.inl rfl)
  refine kj_pqa hx hb hts hK had hs hown hin2 (n0 := 287) (i := 54) (v := 340) (by rw [lnK]; decide) (by unfold ri_; omega) (tkk kK_286 (by decide)) fB_15_64 rfl ff_X12_231 dX12_init_646 (fun M1 e1 => ?_)
  subst e1
  have hf := jFr_up (c := 286) (i := 64) (v := ((340 : Nat) : Int)) hf (by decide)
  refine j_aload_n hO dX12_init_649 rfl 0 rfl ?_
  refine j_iconst hO dX12_init_650 ?_
  refine kj_ai hx hb hts hK had hs hty.2.1 (n0 := 287) (i := 54) (N := 5) (n := 341) (i1 := 55) rfl rfl kK_341 rfl (by decide) om_1617 dX12_init_651 (Nat.le_of_ble_eq_true rfl) (jSl_m (by decide)) hf ?_
  have hf := jFr_w (n' := 342) hf (by decide)
  have hO := kj_ok (rm := ({ frames := 3, cells := 102, slots := jSl ftB ksK 389 - jSl ftB ksK 287, locals := 65 } : Room)) (ft := ftB) (Qs := Qs) (i := 55) (rk := 5) (post := fun _ _ => True) hc (by rw [lnK]; decide) (Nat.le_of_ble_eq_true rfl) (jSl_m (by decide)) (Or.inl rfl)
  refine kj_pqa hx hb hts hK had hs hown hin2 (n0 := 287) (i := 55) (v := 341) (by rw [lnK]; decide) (by unfold ri_; omega) (tkk kK_286 (by decide)) fB_15_65 rfl ff_X12_234 dX12_init_653 (fun M1 e1 => ?_)
  subst e1
  have hf := jFr_up (c := 286) (i := 65) (v := ((341 : Nat) : Int)) hf (by decide)
  refine j_aload_n hO dX12_init_656 rfl 0 rfl ?_
  refine j_sipush hO dX12_init_657 (by decide) ?_
  refine kj_ai hx hb hts hK had hs hty.2.1 (n0 := 287) (i := 55) (N := 640) (n := 342) (i1 := 56) rfl rfl kK_342 rfl (by decide) om_1617 dX12_init_660 (Nat.le_of_ble_eq_true rfl) (jSl_m (by decide)) hf ?_
  have hf := jFr_w (n' := 343) hf (by decide)
  have hO := kj_ok (rm := ({ frames := 3, cells := 102, slots := jSl ftB ksK 389 - jSl ftB ksK 287, locals := 65 } : Room)) (ft := ftB) (Qs := Qs) (i := 56) (rk := 5) (post := fun _ _ => True) hc (by rw [lnK]; decide) (Nat.le_of_ble_eq_true rfl) (jSl_m (by decide)) (Or.inl rfl)
  refine kj_pqa hx hb hts hK had hs hown hin2 (n0 := 287) (i := 56) (v := 342) (by rw [lnK]; decide) (by unfold ri_; omega) (tkk kK_286 (by decide)) fB_15_66 rfl ff_X12_237 dX12_init_662 (fun M1 e1 => ?_)
  subst e1
  have hf := jFr_up (c := 286) (i := 66) (v := ((342 : Nat) : Int)) hf (by decide)
  refine j_aload_n hO dX12_init_665 rfl 0 rfl ?_
  refine j_sipush hO dX12_init_666 (by decide) ?_
  refine kj_ai hx hb hts hK had hs hty.2.1 (n0 := 287) (i := 56) (N := 640) (n := 343) (i1 := 57) rfl rfl kK_343 rfl (by decide) om_1617 dX12_init_669 (Nat.le_of_ble_eq_true rfl) (jSl_m (by decide)) hf ?_
  have hf := jFr_w (n' := 344) hf (by decide)
  have hO := kj_ok (rm := ({ frames := 3, cells := 102, slots := jSl ftB ksK 389 - jSl ftB ksK 287, locals := 65 } : Room)) (ft := ftB) (Qs := Qs) (i := 57) (rk := 5) (post := fun _ _ => True) hc (by rw [lnK]; decide) (Nat.le_of_ble_eq_true rfl) (jSl_m (by decide)) (Or.inl rfl)
  refine kj_pqa hx hb hts hK had hs hown hin2 (n0 := 287) (i := 57) (v := 343) (by rw [lnK]; decide) (by unfold ri_; omega) (tkk kK_286 (by decide)) fB_15_67 rfl ff_X12_240 dX12_init_671 (fun M1 e1 => ?_)
  subst e1
  have hf := jFr_up (c := 286) (i := 67) (v := ((343 : Nat) : Int)) hf (by decide)
  refine j_aload_n hO dX12_init_674 rfl 0 rfl ?_
  refine j_sipush hO dX12_init_675 (by decide) ?_
  refine kj_al hx hb hts hK had hs hty.2.2.1 (n0 := 287) (i := 57) (N := 20000) (n := 344) (i1 := 58) rfl rfl kK_344 rfl (by decide) om_1622 dX12_init_678 (Nat.le_of_ble_eq_true rfl) (jSl_m (by decide)) hf ?_
  have hf := jFr_w (n' := 345) hf (by decide)
  have hO := kj_ok (rm := ({ frames := 3, cells := 102, slots := jSl ftB ksK 389 - jSl ftB ksK 287, locals := 65 } : Room)) (ft := ftB) (Qs := Qs) (i := 58) (rk := 5) (post := fun _ _ => True) hc (by rw [lnK]; decide) (Nat.le_of_ble_eq_true rfl) (jSl_m (by decide)) (Or.inl rfl)
  refine kj_pqa hx hb hts hK had hs hown hin2 (n0 := 287) (i := 58) (v := 344) (by rw [lnK]; decide) (by unfold ri_; omega) (tkk kK_286 (by decide)) fB_15_68 rfl ff_X12_243 dX12_init_680 (fun M1 e1 => ?_)
  subst e1
  have hf := jFr_up (c := 286) (i := 68) (v := ((344 : Nat) : Int)) hf (by decide)
  refine j_aload_n hO dX12_init_683 rfl 0 rfl ?_
  refine j_sipush hO dX12_init_684 (by decide) ?_
  refine kj_az hx hb hts hK had hs hty.2.2.2 (n0 := 287) (i := 58) (N := 2000) (n := 345) (i1 := 59) rfl rfl kK_345 rfl (by decide) om_1646 dX12_init_687 (Nat.le_of_ble_eq_true rfl) (jSl_m (by decide)) hf ?_
  have hf := jFr_w (n' := 346) hf (by decide)
  have hO := kj_ok (rm := ({ frames := 3, cells := 102, slots := jSl ftB ksK 389 - jSl ftB ksK 287, locals := 65 } : Room)) (ft := ftB) (Qs := Qs) (i := 59) (rk := 5) (post := fun _ _ => True) hc (by rw [lnK]; decide) (Nat.le_of_ble_eq_true rfl) (jSl_m (by decide)) (Or.inl rfl)
  refine kj_pqa hx hb hts hK had hs hown hin2 (n0 := 287) (i := 59) (v := 345) (by rw [lnK]; decide) (by unfold ri_; omega) (tkk kK_286 (by decide)) fB_15_69 rfl ff_X12_246 dX12_init_689 (fun M1 e1 => ?_)
  subst e1
  have hf := jFr_up (c := 286) (i := 69) (v := ((345 : Nat) : Int)) hf (by decide)
  refine j_aload_n hO dX12_init_692 rfl 0 rfl ?_
  refine j_sipush hO dX12_init_693 (by decide) ?_
  refine kj_az hx hb hts hK had hs hty.2.2.2 (n0 := 287) (i := 59) (N := 400) (n := 346) (i1 := 60) rfl rfl kK_346 rfl (by decide) om_1646 dX12_init_696 (Nat.le_of_ble_eq_true rfl) (jSl_m (by decide)) hf ?_
  have hf := jFr_w (n' := 347) hf (by decide)
  have hO := kj_ok (rm := ({ frames := 3, cells := 102, slots := jSl ftB ksK 389 - jSl ftB ksK 287, locals := 65 } : Room)) (ft := ftB) (Qs := Qs) (i := 60) (rk := 5) (post := fun _ _ => True) hc (by rw [lnK]; decide) (Nat.le_of_ble_eq_true rfl) (jSl_m (by decide)) (Or.inl rfl)
  refine kj_pqa hx hb hts hK had hs hown hin2 (n0 := 287) (i := 60) (v := 346) (by rw [lnK]; decide) (by unfold ri_; omega) (tkk kK_286 (by decide)) fB_15_70 rfl ff_X12_249 dX12_init_698 (fun M1 e1 => ?_)
  subst e1
  have hf := jFr_up (c := 286) (i := 70) (v := ((346 : Nat) : Int)) hf (by decide)
  refine j_aload_n hO dX12_init_701 rfl 0 rfl ?_
  refine j_ldc hO 160000 om_1933 (by decide) dX12_init_702 ?_
  refine kj_az hx hb hts hK had hs hty.2.2.2 (n0 := 287) (i := 60) (N := 160000) (n := 347) (i1 := 61) rfl rfl kK_347 rfl (by decide) om_1646 dX12_init_704 (Nat.le_of_ble_eq_true rfl) (jSl_m (by decide)) hf ?_
  have hf := jFr_w (n' := 348) hf (by decide)
  have hO := kj_ok (rm := ({ frames := 3, cells := 102, slots := jSl ftB ksK 389 - jSl ftB ksK 287, locals := 65 } : Room)) (ft := ftB) (Qs := Qs) (i := 61) (rk := 5) (post := fun _ _ => True) hc (by rw [lnK]; decide) (Nat.le_of_ble_eq_true rfl) (jSl_m (by decide)) (Or.inl rfl)
  refine kj_pqa hx hb hts hK had hs hown hin2 (n0 := 287) (i := 61) (v := 347) (by rw [lnK]; decide) (by unfold ri_; omega) (tkk kK_286 (by decide)) fB_15_71 rfl ff_X12_253 dX12_init_706 (fun M1 e1 => ?_)
  subst e1
  have hf := jFr_up (c := 286) (i := 71) (v := ((347 : Nat) : Int)) hf (by decide)
  refine j_aload_n hO dX12_init_709 rfl 0 rfl ?_
  refine j_sipush hO dX12_init_710 (by decide) ?_
  refine kj_ai hx hb hts hK had hs hty.2.1 (n0 := 287) (i := 61) (N := 400) (n := 348) (i1 := 62) rfl rfl kK_348 rfl (by decide) om_1617 dX12_init_713 (Nat.le_of_ble_eq_true rfl) (jSl_m (by decide)) hf ?_
  have hf := jFr_w (n' := 349) hf (by decide)
  have hO := kj_ok (rm := ({ frames := 3, cells := 102, slots := jSl ftB ksK 389 - jSl ftB ksK 287, locals := 65 } : Room)) (ft := ftB) (Qs := Qs) (i := 62) (rk := 5) (post := fun _ _ => True) hc (by rw [lnK]; decide) (Nat.le_of_ble_eq_true rfl) (jSl_m (by decide)) (Or.inl rfl)
  refine kj_pqa hx hb hts hK had hs hown hin2 (n0 := 287) (i := 62) (v := 348) (by rw [lnK]; decide) (by unfold ri_; omega) (tkk kK_286 (by decide)) fB_15_72 rfl ff_X12_256 dX12_init_715 (fun M1 e1 => ?_)
  subst e1
  have hf := jFr_up (c := 286) (i := 72) (v := ((348 : Nat) : Int)) hf (by decide)
  refine j_aload_n hO dX12_init_718 rfl 0 rfl ?_
  refine j_sipush hO dX12_init_719 (by decide) ?_
  refine kj_ai hx hb hts hK had hs hty.2.1 (n0 := 287) (i := 62) (N := 400) (n := 349) (i1 := 63) rfl rfl kK_349 rfl (by decide) om_1617 dX12_init_722 (Nat.le_of_ble_eq_true rfl) (jSl_m (by decide)) hf ?_
  have hf := jFr_w (n' := 350) hf (by decide)
  have hO := kj_ok (rm := ({ frames := 3, cells := 102, slots := jSl ftB ksK 389 - jSl ftB ksK 287, locals := 65 } : Room)) (ft := ftB) (Qs := Qs) (i := 63) (rk := 5) (post := fun _ _ => True) hc (by rw [lnK]; decide) (Nat.le_of_ble_eq_true rfl) (jSl_m (by decide)) (Or.inl rfl)
  refine kj_pqa hx hb hts hK had hs hown hin2 (n0 := 287) (i := 63) (v := 349) (by rw [lnK]; decide) (by unfold ri_; omega) (tkk kK_286 (by decide)) fB_15_74 rfl ff_X12_259 dX12_init_724 (fun M1 e1 => ?_)
  subst e1
  have hf := jFr_up (c := 286) (i := 74) (v := ((349 : Nat) : Int)) hf (by decide)
  refine j_aload_n hO dX12_init_727 rfl 0 rfl ?_
  refine j_sipush hO dX12_init_728 (by decide) ?_
  refine kj_ai hx hb hts hK had hs hty.2.1 (n0 := 287) (i := 63) (N := 400) (n := 350) (i1 := 64) rfl rfl kK_350 rfl (by decide) om_1617 dX12_init_731 (Nat.le_of_ble_eq_true rfl) (jSl_m (by decide)) hf ?_
  have hf := jFr_w (n' := 351) hf (by decide)
  have hO := kj_ok (rm := ({ frames := 3, cells := 102, slots := jSl ftB ksK 389 - jSl ftB ksK 287, locals := 65 } : Room)) (ft := ftB) (Qs := Qs) (i := 64) (rk := 5) (post := fun _ _ => True) hc (by rw [lnK]; decide) (Nat.le_of_ble_eq_true rfl) (jSl_m (by decide)) (Or.inl rfl)
  refine kj_pqa hx hb hts hK had hs hown hin2 (n0 := 287) (i := 64) (v := 350) (by rw [lnK]; decide) (by unfold ri_; omega) (tkk kK_286 (by decide)) fB_15_76 rfl ff_X12_262 dX12_init_733 (fun M1 e1 => ?_)
  subst e1
  have hf := jFr_up (c := 286) (i := 76) (v := ((350 : Nat) : Int)) hf (by decide)
  refine j_aload_n hO dX12_init_736 rfl 0 rfl ?_
  refine j_sipush hO dX12_init_737 (by decide) ?_
  refine kj_ai hx hb hts hK had hs hty.2.1 (n0 := 287) (i := 64) (N := 400) (n := 351) (i1 := 65) rfl rfl kK_351 rfl (by decide) om_1617 dX12_init_740 (Nat.le_of_ble_eq_true rfl) (jSl_m (by decide)) hf ?_
  have hf := jFr_w (n' := 352) hf (by decide)
  have hO := kj_ok (rm := ({ frames := 3, cells := 102, slots := jSl ftB ksK 389 - jSl ftB ksK 287, locals := 65 } : Room)) (ft := ftB) (Qs := Qs) (i := 65) (rk := 5) (post := fun _ _ => True) hc (by rw [lnK]; decide) (Nat.le_of_ble_eq_true rfl) (jSl_m (by decide)) (Or.inl rfl)
  refine kj_pqa hx hb hts hK had hs hown hin2 (n0 := 287) (i := 65) (v := 351) (by rw [lnK]; decide) (by unfold ri_; omega) (tkk kK_286 (by decide)) fB_15_77 rfl ff_X12_265 dX12_init_742 (fun M1 e1 => ?_)
  subst e1
  have hf := jFr_up (c := 286) (i := 77) (v := ((351 : Nat) : Int)) hf (by decide)
  refine j_aload_n hO dX12_init_745 rfl 0 rfl ?_
  refine j_iconst hO dX12_init_746 ?_
  refine j_pi hO rk_m1 (tkk kK_286 (by decide)) fB_15_82 rfl fp_X12_268 dX12_init_747 (fun M1 e1 => ?_)
  subst e1
  have hf := jFr_up (c := 286) (i := 82) (v := (-1)) hf (by decide)
  refine j_aload_n hO dX12_init_750 rfl 0 rfl ?_
  refine j_sipush hO dX12_init_751 (by decide) ?_
  refine kj_ai hx hb hts hK had hs hty.2.1 (n0 := 287) (i := 65) (N := 480) (n := 352) (i1 := 66) rfl rfl kK_352 rfl (by decide) om_1617 dX12_init_754 (Nat.le_of_ble_eq_true rfl) (jSl_m (by decide)) hf ?_
  have hf := jFr_w (n' := 353) hf (by decide)
  have hO := kj_ok (rm := ({ frames := 3, cells := 102, slots := jSl ftB ksK 389 - jSl ftB ksK 287, locals := 65 } : Room)) (ft := ftB) (Qs := Qs) (i := 66) (rk := 5) (post := fun _ _ => True) hc (by rw [lnK]; decide) (Nat.le_of_ble_eq_true rfl) (jSl_m (by decide)) (Or.inl rfl)
  refine kj_pqa hx hb hts hK had hs hown hin2 (n0 := 287) (i := 66) (v := 352) (by rw [lnK]; decide) (by unfold ri_; omega) (tkk kK_286 (by decide)) fB_15_86 rfl ff_X12_272 dX12_init_756 (fun M1 e1 => ?_)
  subst e1
  have hf := jFr_up (c := 286) (i := 86) (v := ((352 : Nat) : Int)) hf (by decide)
  refine j_aload_n hO dX12_init_759 rfl 0 rfl ?_
  refine j_sipush hO dX12_init_760 (by decide) ?_
  refine kj_ai hx hb hts hK had hs hty.2.1 (n0 := 287) (i := 66) (N := 480) (n := 353) (i1 := 67) rfl rfl kK_353 rfl (by decide) om_1617 dX12_init_763 (Nat.le_of_ble_eq_true rfl) (jSl_m (by decide)) hf ?_
  have hf := jFr_w (n' := 354) hf (by decide)
  have hO := kj_ok (rm := ({ frames := 3, cells := 102, slots := jSl ftB ksK 389 - jSl ftB ksK 287, locals := 65 } : Room)) (ft := ftB) (Qs := Qs) (i := 67) (rk := 5) (post := fun _ _ => True) hc (by rw [lnK]; decide) (Nat.le_of_ble_eq_true rfl) (jSl_m (by decide)) (Or.inl rfl)
  refine kj_pqa hx hb hts hK had hs hown hin2 (n0 := 287) (i := 67) (v := 353) (by rw [lnK]; decide) (by unfold ri_; omega) (tkk kK_286 (by decide)) fB_15_87 rfl ff_X12_275 dX12_init_765 (fun M1 e1 => ?_)
  subst e1
  have hf := jFr_up (c := 286) (i := 87) (v := ((353 : Nat) : Int)) hf (by decide)
  refine j_aload_n hO dX12_init_768 rfl 0 rfl ?_
  refine j_sipush hO dX12_init_769 (by decide) ?_
  refine kj_ai hx hb hts hK had hs hty.2.1 (n0 := 287) (i := 67) (N := 480) (n := 354) (i1 := 68) rfl rfl kK_354 rfl (by decide) om_1617 dX12_init_772 (Nat.le_of_ble_eq_true rfl) (jSl_m (by decide)) hf ?_
  have hf := jFr_w (n' := 355) hf (by decide)
  have hO := kj_ok (rm := ({ frames := 3, cells := 102, slots := jSl ftB ksK 389 - jSl ftB ksK 287, locals := 65 } : Room)) (ft := ftB) (Qs := Qs) (i := 68) (rk := 5) (post := fun _ _ => True) hc (by rw [lnK]; decide) (Nat.le_of_ble_eq_true rfl) (jSl_m (by decide)) (Or.inl rfl)
  refine kj_pqa hx hb hts hK had hs hown hin2 (n0 := 287) (i := 68) (v := 354) (by rw [lnK]; decide) (by unfold ri_; omega) (tkk kK_286 (by decide)) fB_15_88 rfl ff_X12_278 dX12_init_774 (fun M1 e1 => ?_)
  subst e1
  have hf := jFr_up (c := 286) (i := 88) (v := ((354 : Nat) : Int)) hf (by decide)
  refine j_aload_n hO dX12_init_777 rfl 0 rfl ?_
  refine j_sipush hO dX12_init_778 (by decide) ?_
  refine kj_ai hx hb hts hK had hs hty.2.1 (n0 := 287) (i := 68) (N := 480) (n := 355) (i1 := 69) rfl rfl kK_355 rfl (by decide) om_1617 dX12_init_781 (Nat.le_of_ble_eq_true rfl) (jSl_m (by decide)) hf ?_
  have hf := jFr_w (n' := 356) hf (by decide)
  have hO := kj_ok (rm := ({ frames := 3, cells := 102, slots := jSl ftB ksK 389 - jSl ftB ksK 287, locals := 65 } : Room)) (ft := ftB) (Qs := Qs) (i := 69) (rk := 5) (post := fun _ _ => True) hc (by rw [lnK]; decide) (Nat.le_of_ble_eq_true rfl) (jSl_m (by decide)) (Or.inl rfl)
  refine kj_pqa hx hb hts hK had hs hown hin2 (n0 := 287) (i := 69) (v := 355) (by rw [lnK]; decide) (by unfold ri_; omega) (tkk kK_286 (by decide)) fB_15_89 rfl ff_X12_281 dX12_init_783 (fun M1 e1 => ?_)
  subst e1
  have hf := jFr_up (c := 286) (i := 89) (v := ((355 : Nat) : Int)) hf (by decide)
  refine j_aload_n hO dX12_init_786 rfl 0 rfl ?_
  refine j_sipush hO dX12_init_787 (by decide) ?_
  refine kj_al hx hb hts hK had hs hty.2.2.1 (n0 := 287) (i := 69) (N := 480) (n := 356) (i1 := 70) rfl rfl kK_356 rfl (by decide) om_1622 dX12_init_790 (Nat.le_of_ble_eq_true rfl) (jSl_m (by decide)) hf ?_
  have hf := jFr_w (n' := 357) hf (by decide)
  have hO := kj_ok (rm := ({ frames := 3, cells := 102, slots := jSl ftB ksK 389 - jSl ftB ksK 287, locals := 65 } : Room)) (ft := ftB) (Qs := Qs) (i := 70) (rk := 5) (post := fun _ _ => True) hc (by rw [lnK]; decide) (Nat.le_of_ble_eq_true rfl) (jSl_m (by decide)) (Or.inl rfl)
  refine kj_pqa hx hb hts hK had hs hown hin2 (n0 := 287) (i := 70) (v := 356) (by rw [lnK]; decide) (by unfold ri_; omega) (tkk kK_286 (by decide)) fB_15_90 rfl ff_X12_284 dX12_init_792 (fun M1 e1 => ?_)
  subst e1
  have hf := jFr_up (c := 286) (i := 90) (v := ((356 : Nat) : Int)) hf (by decide)
  refine j_aload_n hO dX12_init_795 rfl 0 rfl ?_
  refine j_bipush hO dX12_init_796 (by decide) ?_
  refine kj_al hx hb hts hK had hs hty.2.2.1 (n0 := 287) (i := 70) (N := 12) (n := 357) (i1 := 71) rfl rfl kK_357 rfl (by decide) om_1622 dX12_init_798 (Nat.le_of_ble_eq_true rfl) (jSl_m (by decide)) hf ?_
  have hf := jFr_w (n' := 358) hf (by decide)
  have hO := kj_ok (rm := ({ frames := 3, cells := 102, slots := jSl ftB ksK 389 - jSl ftB ksK 287, locals := 65 } : Room)) (ft := ftB) (Qs := Qs) (i := 71) (rk := 5) (post := fun _ _ => True) hc (by rw [lnK]; decide) (Nat.le_of_ble_eq_true rfl) (jSl_m (by decide)) (Or.inl rfl)
  refine kj_pqa hx hb hts hK had hs hown hin2 (n0 := 287) (i := 71) (v := 357) (by rw [lnK]; decide) (by unfold ri_; omega) (tkk kK_286 (by decide)) fB_15_96 rfl ff_X12_287 dX12_init_800 (fun M1 e1 => ?_)
  subst e1
  have hf := jFr_up (c := 286) (i := 96) (v := ((357 : Nat) : Int)) hf (by decide)
  refine j_aload_n hO dX12_init_803 rfl 0 rfl ?_
  refine j_bipush hO dX12_init_804 (by decide) ?_
  refine kj_ai hx hb hts hK had hs hty.2.1 (n0 := 287) (i := 71) (N := 12) (n := 358) (i1 := 72) rfl rfl kK_358 rfl (by decide) om_1617 dX12_init_806 (Nat.le_of_ble_eq_true rfl) (jSl_m (by decide)) hf ?_
  have hf := jFr_w (n' := 359) hf (by decide)
  have hO := kj_ok (rm := ({ frames := 3, cells := 102, slots := jSl ftB ksK 389 - jSl ftB ksK 287, locals := 65 } : Room)) (ft := ftB) (Qs := Qs) (i := 72) (rk := 5) (post := fun _ _ => True) hc (by rw [lnK]; decide) (Nat.le_of_ble_eq_true rfl) (jSl_m (by decide)) (Or.inl rfl)
  refine kj_pqa hx hb hts hK had hs hown hin2 (n0 := 287) (i := 72) (v := 358) (by rw [lnK]; decide) (by unfold ri_; omega) (tkk kK_286 (by decide)) fB_15_104 rfl ff_X12_290 dX12_init_808 (fun M1 e1 => ?_)
  subst e1
  have hf := jFr_up (c := 286) (i := 104) (v := ((358 : Nat) : Int)) hf (by decide)
  refine j_aload_n hO dX12_init_811 rfl 0 rfl ?_
  refine j_ldcw hO 52800 om_1947 (by decide) dX12_init_812 ?_
  refine kj_ai hx hb hts hK had hs hty.2.1 (n0 := 287) (i := 72) (N := 52800) (n := 359) (i1 := 73) rfl rfl kK_359 rfl (by decide) om_1617 dX12_init_815 (Nat.le_of_ble_eq_true rfl) (jSl_m (by decide)) hf ?_
  have hf := jFr_w (n' := 360) hf (by decide)
  have hO := kj_ok (rm := ({ frames := 3, cells := 102, slots := jSl ftB ksK 389 - jSl ftB ksK 287, locals := 65 } : Room)) (ft := ftB) (Qs := Qs) (i := 73) (rk := 5) (post := fun _ _ => True) hc (by rw [lnK]; decide) (Nat.le_of_ble_eq_true rfl) (jSl_m (by decide)) (Or.inl rfl)
  refine kj_pqa hx hb hts hK had hs hown hin2 (n0 := 287) (i := 73) (v := 359) (by rw [lnK]; decide) (by unfold ri_; omega) (tkk kK_286 (by decide)) fB_15_105 rfl ff_X12_294 dX12_init_817 (fun M1 e1 => ?_)
  subst e1
  have hf := jFr_up (c := 286) (i := 105) (v := ((359 : Nat) : Int)) hf (by decide)
  refine j_aload_n hO dX12_init_820 rfl 0 rfl ?_
  refine j_bipush hO dX12_init_821 (by decide) ?_
  refine kj_ai hx hb hts hK had hs hty.2.1 (n0 := 287) (i := 73) (N := 12) (n := 360) (i1 := 74) rfl rfl kK_360 rfl (by decide) om_1617 dX12_init_823 (Nat.le_of_ble_eq_true rfl) (jSl_m (by decide)) hf ?_
  have hf := jFr_w (n' := 361) hf (by decide)
  have hO := kj_ok (rm := ({ frames := 3, cells := 102, slots := jSl ftB ksK 389 - jSl ftB ksK 287, locals := 65 } : Room)) (ft := ftB) (Qs := Qs) (i := 74) (rk := 5) (post := fun _ _ => True) hc (by rw [lnK]; decide) (Nat.le_of_ble_eq_true rfl) (jSl_m (by decide)) (Or.inl rfl)
  refine kj_pqa hx hb hts hK had hs hown hin2 (n0 := 287) (i := 74) (v := 360) (by rw [lnK]; decide) (by unfold ri_; omega) (tkk kK_286 (by decide)) fB_15_106 rfl ff_X12_297 dX12_init_825 (fun M1 e1 => ?_)
  subst e1
  have hf := jFr_up (c := 286) (i := 106) (v := ((360 : Nat) : Int)) hf (by decide)
  refine j_aload_n hO dX12_init_828 rfl 0 rfl ?_
  refine j_sipush hO dX12_init_829 (by decide) ?_
  refine kj_ai hx hb hts hK had hs hty.2.1 (n0 := 287) (i := 74) (N := 4400) (n := 361) (i1 := 75) rfl rfl kK_361 rfl (by decide) om_1617 dX12_init_832 (Nat.le_of_ble_eq_true rfl) (jSl_m (by decide)) hf ?_
  have hf := jFr_w (n' := 362) hf (by decide)
  have hO := kj_ok (rm := ({ frames := 3, cells := 102, slots := jSl ftB ksK 389 - jSl ftB ksK 287, locals := 65 } : Room)) (ft := ftB) (Qs := Qs) (i := 75) (rk := 5) (post := fun _ _ => True) hc (by rw [lnK]; decide) (Nat.le_of_ble_eq_true rfl) (jSl_m (by decide)) (Or.inl rfl)
  refine kj_pqa hx hb hts hK had hs hown hin2 (n0 := 287) (i := 75) (v := 361) (by rw [lnK]; decide) (by unfold ri_; omega) (tkk kK_286 (by decide)) fB_15_107 rfl ff_X12_300 dX12_init_834 (fun M1 e1 => ?_)
  subst e1
  have hf := jFr_up (c := 286) (i := 107) (v := ((361 : Nat) : Int)) hf (by decide)
  refine j_aload_n hO dX12_init_837 rfl 0 rfl ?_
  refine j_sipush hO dX12_init_838 (by decide) ?_
  refine kj_ai hx hb hts hK had hs hty.2.1 (n0 := 287) (i := 75) (N := 4400) (n := 362) (i1 := 76) rfl rfl kK_362 rfl (by decide) om_1617 dX12_init_841 (Nat.le_of_ble_eq_true rfl) (jSl_m (by decide)) hf ?_
  have hf := jFr_w (n' := 363) hf (by decide)
  have hO := kj_ok (rm := ({ frames := 3, cells := 102, slots := jSl ftB ksK 389 - jSl ftB ksK 287, locals := 65 } : Room)) (ft := ftB) (Qs := Qs) (i := 76) (rk := 5) (post := fun _ _ => True) hc (by rw [lnK]; decide) (Nat.le_of_ble_eq_true rfl) (jSl_m (by decide)) (Or.inl rfl)
  refine kj_pqa hx hb hts hK had hs hown hin2 (n0 := 287) (i := 76) (v := 362) (by rw [lnK]; decide) (by unfold ri_; omega) (tkk kK_286 (by decide)) fB_15_108 rfl ff_X12_303 dX12_init_843 (fun M1 e1 => ?_)
  subst e1
  have hf := jFr_up (c := 286) (i := 108) (v := ((362 : Nat) : Int)) hf (by decide)
  refine j_aload_n hO dX12_init_846 rfl 0 rfl ?_
  refine j_sipush hO dX12_init_847 (by decide) ?_
  refine kj_al hx hb hts hK had hs hty.2.2.1 (n0 := 287) (i := 76) (N := 4400) (n := 363) (i1 := 77) rfl rfl kK_363 rfl (by decide) om_1622 dX12_init_850 (Nat.le_of_ble_eq_true rfl) (jSl_m (by decide)) hf ?_
  have hf := jFr_w (n' := 364) hf (by decide)
  have hO := kj_ok (rm := ({ frames := 3, cells := 102, slots := jSl ftB ksK 389 - jSl ftB ksK 287, locals := 65 } : Room)) (ft := ftB) (Qs := Qs) (i := 77) (rk := 5) (post := fun _ _ => True) hc (by rw [lnK]; decide) (Nat.le_of_ble_eq_true rfl) (jSl_m (by decide)) (Or.inl rfl)
  refine kj_pqa hx hb hts hK had hs hown hin2 (n0 := 287) (i := 77) (v := 363) (by rw [lnK]; decide) (by unfold ri_; omega) (tkk kK_286 (by decide)) fB_15_109 rfl ff_X12_306 dX12_init_852 (fun M1 e1 => ?_)
  subst e1
  have hf := jFr_up (c := 286) (i := 109) (v := ((363 : Nat) : Int)) hf (by decide)
  refine j_aload_n hO dX12_init_855 rfl 0 rfl ?_
  refine j_iconst hO dX12_init_856 ?_
  refine kj_ai hx hb hts hK had hs hty.2.1 (n0 := 287) (i := 77) (N := 3) (n := 364) (i1 := 78) rfl rfl kK_364 rfl (by decide) om_1617 dX12_init_857 (Nat.le_of_ble_eq_true rfl) (jSl_m (by decide)) hf ?_
  have hf := jFr_w (n' := 365) hf (by decide)
  have hO := kj_ok (rm := ({ frames := 3, cells := 102, slots := jSl ftB ksK 389 - jSl ftB ksK 287, locals := 65 } : Room)) (ft := ftB) (Qs := Qs) (i := 78) (rk := 5) (post := fun _ _ => True) hc (by rw [lnK]; decide) (Nat.le_of_ble_eq_true rfl) (jSl_m (by decide)) (Or.inl rfl)
  refine kj_pqa hx hb hts hK had hs hown hin2 (n0 := 287) (i := 78) (v := 364) (by rw [lnK]; decide) (by unfold ri_; omega) (tkk kK_286 (by decide)) fB_15_111 rfl ff_X12_309 dX12_init_859 (fun M1 e1 => ?_)
  subst e1
  have hf := jFr_up (c := 286) (i := 111) (v := ((364 : Nat) : Int)) hf (by decide)
  refine j_aload_n hO dX12_init_862 rfl 0 rfl ?_
  refine j_iconst hO dX12_init_863 ?_
  refine kj_ai hx hb hts hK had hs hty.2.1 (n0 := 287) (i := 78) (N := 3) (n := 365) (i1 := 79) rfl rfl kK_365 rfl (by decide) om_1617 dX12_init_864 (Nat.le_of_ble_eq_true rfl) (jSl_m (by decide)) hf ?_
  have hf := jFr_w (n' := 366) hf (by decide)
  have hO := kj_ok (rm := ({ frames := 3, cells := 102, slots := jSl ftB ksK 389 - jSl ftB ksK 287, locals := 65 } : Room)) (ft := ftB) (Qs := Qs) (i := 79) (rk := 5) (post := fun _ _ => True) hc (by rw [lnK]; decide) (Nat.le_of_ble_eq_true rfl) (jSl_m (by decide)) (Or.inl rfl)
  refine kj_pqa hx hb hts hK had hs hown hin2 (n0 := 287) (i := 79) (v := 365) (by rw [lnK]; decide) (by unfold ri_; omega) (tkk kK_286 (by decide)) fB_15_112 rfl ff_X12_312 dX12_init_866 (fun M1 e1 => ?_)
  subst e1
  have hf := jFr_up (c := 286) (i := 112) (v := ((365 : Nat) : Int)) hf (by decide)
  refine j_aload_n hO dX12_init_869 rfl 0 rfl ?_
  refine j_bipush hO dX12_init_870 (by decide) ?_
  refine kj_al hx hb hts hK had hs hty.2.2.1 (n0 := 287) (i := 79) (N := 6) (n := 366) (i1 := 80) rfl rfl kK_366 rfl (by decide) om_1622 dX12_init_872 (Nat.le_of_ble_eq_true rfl) (jSl_m (by decide)) hf ?_
  have hf := jFr_w (n' := 367) hf (by decide)
  have hO := kj_ok (rm := ({ frames := 3, cells := 102, slots := jSl ftB ksK 389 - jSl ftB ksK 287, locals := 65 } : Room)) (ft := ftB) (Qs := Qs) (i := 80) (rk := 5) (post := fun _ _ => True) hc (by rw [lnK]; decide) (Nat.le_of_ble_eq_true rfl) (jSl_m (by decide)) (Or.inl rfl)
  refine kj_pqa hx hb hts hK had hs hown hin2 (n0 := 287) (i := 80) (v := 366) (by rw [lnK]; decide) (by unfold ri_; omega) (tkk kK_286 (by decide)) fB_15_115 rfl ff_X12_315 dX12_init_874 (fun M1 e1 => ?_)
  subst e1
  have hf := jFr_up (c := 286) (i := 115) (v := ((366 : Nat) : Int)) hf (by decide)
  refine j_aload_n hO dX12_init_877 rfl 0 rfl ?_
  refine j_bipush hO dX12_init_878 (by decide) ?_
  refine kj_al hx hb hts hK had hs hty.2.2.1 (n0 := 287) (i := 80) (N := 9) (n := 367) (i1 := 81) rfl rfl kK_367 rfl (by decide) om_1622 dX12_init_880 (Nat.le_of_ble_eq_true rfl) (jSl_m (by decide)) hf ?_
  have hf := jFr_w (n' := 368) hf (by decide)
  have hO := kj_ok (rm := ({ frames := 3, cells := 102, slots := jSl ftB ksK 389 - jSl ftB ksK 287, locals := 65 } : Room)) (ft := ftB) (Qs := Qs) (i := 81) (rk := 5) (post := fun _ _ => True) hc (by rw [lnK]; decide) (Nat.le_of_ble_eq_true rfl) (jSl_m (by decide)) (Or.inl rfl)
  refine kj_pqa hx hb hts hK had hs hown hin2 (n0 := 287) (i := 81) (v := 367) (by rw [lnK]; decide) (by unfold ri_; omega) (tkk kK_286 (by decide)) fB_15_116 rfl ff_X12_318 dX12_init_882 (fun M1 e1 => ?_)
  subst e1
  have hf := jFr_up (c := 286) (i := 116) (v := ((367 : Nat) : Int)) hf (by decide)
  refine j_aload_n hO dX12_init_885 rfl 0 rfl ?_
  refine j_bipush hO dX12_init_886 (by decide) ?_
  refine kj_al hx hb hts hK had hs hty.2.2.1 (n0 := 287) (i := 81) (N := 48) (n := 368) (i1 := 82) rfl rfl kK_368 rfl (by decide) om_1622 dX12_init_888 (Nat.le_of_ble_eq_true rfl) (jSl_m (by decide)) hf ?_
  have hf := jFr_w (n' := 369) hf (by decide)
  have hO := kj_ok (rm := ({ frames := 3, cells := 102, slots := jSl ftB ksK 389 - jSl ftB ksK 287, locals := 65 } : Room)) (ft := ftB) (Qs := Qs) (i := 82) (rk := 5) (post := fun _ _ => True) hc (by rw [lnK]; decide) (Nat.le_of_ble_eq_true rfl) (jSl_m (by decide)) (Or.inl rfl)
  refine kj_pqa hx hb hts hK had hs hown hin2 (n0 := 287) (i := 82) (v := 368) (by rw [lnK]; decide) (by unfold ri_; omega) (tkk kK_286 (by decide)) fB_15_117 rfl ff_X12_321 dX12_init_890 (fun M1 e1 => ?_)
  subst e1
  have hf := jFr_up (c := 286) (i := 117) (v := ((368 : Nat) : Int)) hf (by decide)
  refine j_aload_n hO dX12_init_893 rfl 0 rfl ?_
  refine j_bipush hO dX12_init_894 (by decide) ?_
  refine kj_ai hx hb hts hK had hs hty.2.1 (n0 := 287) (i := 82) (N := 6) (n := 369) (i1 := 83) rfl rfl kK_369 rfl (by decide) om_1617 dX12_init_896 (Nat.le_of_ble_eq_true rfl) (jSl_m (by decide)) hf ?_
  have hf := jFr_w (n' := 370) hf (by decide)
  have hO := kj_ok (rm := ({ frames := 3, cells := 102, slots := jSl ftB ksK 389 - jSl ftB ksK 287, locals := 65 } : Room)) (ft := ftB) (Qs := Qs) (i := 83) (rk := 5) (post := fun _ _ => True) hc (by rw [lnK]; decide) (Nat.le_of_ble_eq_true rfl) (jSl_m (by decide)) (Or.inl rfl)
  refine kj_pqa hx hb hts hK had hs hown hin2 (n0 := 287) (i := 83) (v := 369) (by rw [lnK]; decide) (by unfold ri_; omega) (tkk kK_286 (by decide)) fB_15_118 rfl ff_X12_324 dX12_init_898 (fun M1 e1 => ?_)
  subst e1
  have hf := jFr_up (c := 286) (i := 118) (v := ((369 : Nat) : Int)) hf (by decide)
  refine j_aload_n hO dX12_init_901 rfl 0 rfl ?_
  refine j_bipush hO dX12_init_902 (by decide) ?_
  refine kj_ai hx hb hts hK had hs hty.2.1 (n0 := 287) (i := 83) (N := 12) (n := 370) (i1 := 84) rfl rfl kK_370 rfl (by decide) om_1617 dX12_init_904 (Nat.le_of_ble_eq_true rfl) (jSl_m (by decide)) hf ?_
  have hf := jFr_w (n' := 371) hf (by decide)
  have hO := kj_ok (rm := ({ frames := 3, cells := 102, slots := jSl ftB ksK 389 - jSl ftB ksK 287, locals := 65 } : Room)) (ft := ftB) (Qs := Qs) (i := 84) (rk := 5) (post := fun _ _ => True) hc (by rw [lnK]; decide) (Nat.le_of_ble_eq_true rfl) (jSl_m (by decide)) (Or.inl rfl)
  refine kj_pqa hx hb hts hK had hs hown hin2 (n0 := 287) (i := 84) (v := 370) (by rw [lnK]; decide) (by unfold ri_; omega) (tkk kK_286 (by decide)) fB_15_119 rfl ff_X12_327 dX12_init_906 (fun M1 e1 => ?_)
  subst e1
  have hf := jFr_up (c := 286) (i := 119) (v := ((370 : Nat) : Int)) hf (by decide)
  refine j_aload_n hO dX12_init_909 rfl 0 rfl ?_
  refine j_bipush hO dX12_init_910 (by decide) ?_
  refine kj_ai hx hb hts hK had hs hty.2.1 (n0 := 287) (i := 84) (N := 12) (n := 371) (i1 := 85) rfl rfl kK_371 rfl (by decide) om_1617 dX12_init_912 (Nat.le_of_ble_eq_true rfl) (jSl_m (by decide)) hf ?_
  have hf := jFr_w (n' := 372) hf (by decide)
  have hO := kj_ok (rm := ({ frames := 3, cells := 102, slots := jSl ftB ksK 389 - jSl ftB ksK 287, locals := 65 } : Room)) (ft := ftB) (Qs := Qs) (i := 85) (rk := 5) (post := fun _ _ => True) hc (by rw [lnK]; decide) (Nat.le_of_ble_eq_true rfl) (jSl_m (by decide)) (Or.inl rfl)
  refine kj_pqa hx hb hts hK had hs hown hin2 (n0 := 287) (i := 85) (v := 371) (by rw [lnK]; decide) (by unfold ri_; omega) (tkk kK_286 (by decide)) fB_15_120 rfl ff_X12_330 dX12_init_914 (fun M1 e1 => ?_)
  subst e1
  have hf := jFr_up (c := 286) (i := 120) (v := ((371 : Nat) : Int)) hf (by decide)
  refine j_aload_n hO dX12_init_917 rfl 0 rfl ?_
  refine j_bipush hO dX12_init_918 (by decide) ?_
  refine kj_ai hx hb hts hK had hs hty.2.1 (n0 := 287) (i := 85) (N := 12) (n := 372) (i1 := 86) rfl rfl kK_372 rfl (by decide) om_1617 dX12_init_920 (Nat.le_of_ble_eq_true rfl) (jSl_m (by decide)) hf ?_
  have hf := jFr_w (n' := 373) hf (by decide)
  have hO := kj_ok (rm := ({ frames := 3, cells := 102, slots := jSl ftB ksK 389 - jSl ftB ksK 287, locals := 65 } : Room)) (ft := ftB) (Qs := Qs) (i := 86) (rk := 5) (post := fun _ _ => True) hc (by rw [lnK]; decide) (Nat.le_of_ble_eq_true rfl) (jSl_m (by decide)) (Or.inl rfl)
  refine kj_pqa hx hb hts hK had hs hown hin2 (n0 := 287) (i := 86) (v := 372) (by rw [lnK]; decide) (by unfold ri_; omega) (tkk kK_286 (by decide)) fB_15_121 rfl ff_X12_333 dX12_init_922 (fun M1 e1 => ?_)
  subst e1
  have hf := jFr_up (c := 286) (i := 121) (v := ((372 : Nat) : Int)) hf (by decide)
  refine j_aload_n hO dX12_init_925 rfl 0 rfl ?_
  refine j_bipush hO dX12_init_926 (by decide) ?_
  refine kj_ai hx hb hts hK had hs hty.2.1 (n0 := 287) (i := 86) (N := 12) (n := 373) (i1 := 87) rfl rfl kK_373 rfl (by decide) om_1617 dX12_init_928 (Nat.le_of_ble_eq_true rfl) (jSl_m (by decide)) hf ?_
  have hf := jFr_w (n' := 374) hf (by decide)
  have hO := kj_ok (rm := ({ frames := 3, cells := 102, slots := jSl ftB ksK 389 - jSl ftB ksK 287, locals := 65 } : Room)) (ft := ftB) (Qs := Qs) (i := 87) (rk := 5) (post := fun _ _ => True) hc (by rw [lnK]; decide) (Nat.le_of_ble_eq_true rfl) (jSl_m (by decide)) (Or.inl rfl)
  refine kj_pqa hx hb hts hK had hs hown hin2 (n0 := 287) (i := 87) (v := 373) (by rw [lnK]; decide) (by unfold ri_; omega) (tkk kK_286 (by decide)) fB_15_122 rfl ff_X12_336 dX12_init_930 (fun M1 e1 => ?_)
  subst e1
  have hf := jFr_up (c := 286) (i := 122) (v := ((373 : Nat) : Int)) hf (by decide)
  refine j_aload_n hO dX12_init_933 rfl 0 rfl ?_
  refine j_bipush hO dX12_init_934 (by decide) ?_
  refine kj_ai hx hb hts hK had hs hty.2.1 (n0 := 287) (i := 87) (N := 48) (n := 374) (i1 := 88) rfl rfl kK_374 rfl (by decide) om_1617 dX12_init_936 (Nat.le_of_ble_eq_true rfl) (jSl_m (by decide)) hf ?_
  have hf := jFr_w (n' := 375) hf (by decide)
  have hO := kj_ok (rm := ({ frames := 3, cells := 102, slots := jSl ftB ksK 389 - jSl ftB ksK 287, locals := 65 } : Room)) (ft := ftB) (Qs := Qs) (i := 88) (rk := 5) (post := fun _ _ => True) hc (by rw [lnK]; decide) (Nat.le_of_ble_eq_true rfl) (jSl_m (by decide)) (Or.inl rfl)
  refine kj_pqa hx hb hts hK had hs hown hin2 (n0 := 287) (i := 88) (v := 374) (by rw [lnK]; decide) (by unfold ri_; omega) (tkk kK_286 (by decide)) fB_15_123 rfl ff_X12_339 dX12_init_938 (fun M1 e1 => ?_)
  subst e1
  have hf := jFr_up (c := 286) (i := 123) (v := ((374 : Nat) : Int)) hf (by decide)
  refine j_aload_n hO dX12_init_941 rfl 0 rfl ?_
  refine j_bipush hO dX12_init_942 (by decide) ?_
  refine kj_ai hx hb hts hK had hs hty.2.1 (n0 := 287) (i := 88) (N := 48) (n := 375) (i1 := 89) rfl rfl kK_375 rfl (by decide) om_1617 dX12_init_944 (Nat.le_of_ble_eq_true rfl) (jSl_m (by decide)) hf ?_
  have hf := jFr_w (n' := 376) hf (by decide)
  have hO := kj_ok (rm := ({ frames := 3, cells := 102, slots := jSl ftB ksK 389 - jSl ftB ksK 287, locals := 65 } : Room)) (ft := ftB) (Qs := Qs) (i := 89) (rk := 5) (post := fun _ _ => True) hc (by rw [lnK]; decide) (Nat.le_of_ble_eq_true rfl) (jSl_m (by decide)) (Or.inl rfl)
  refine kj_pqa hx hb hts hK had hs hown hin2 (n0 := 287) (i := 89) (v := 375) (by rw [lnK]; decide) (by unfold ri_; omega) (tkk kK_286 (by decide)) fB_15_124 rfl ff_X12_342 dX12_init_946 (fun M1 e1 => ?_)
  subst e1
  have hf := jFr_up (c := 286) (i := 124) (v := ((375 : Nat) : Int)) hf (by decide)
  refine j_aload_n hO dX12_init_949 rfl 0 rfl ?_
  refine j_bipush hO dX12_init_950 (by decide) ?_
  refine kj_ai hx hb hts hK had hs hty.2.1 (n0 := 287) (i := 89) (N := 48) (n := 376) (i1 := 90) rfl rfl kK_376 rfl (by decide) om_1617 dX12_init_952 (Nat.le_of_ble_eq_true rfl) (jSl_m (by decide)) hf ?_
  have hf := jFr_w (n' := 377) hf (by decide)
  have hO := kj_ok (rm := ({ frames := 3, cells := 102, slots := jSl ftB ksK 389 - jSl ftB ksK 287, locals := 65 } : Room)) (ft := ftB) (Qs := Qs) (i := 90) (rk := 5) (post := fun _ _ => True) hc (by rw [lnK]; decide) (Nat.le_of_ble_eq_true rfl) (jSl_m (by decide)) (Or.inl rfl)
  refine kj_pqa hx hb hts hK had hs hown hin2 (n0 := 287) (i := 90) (v := 376) (by rw [lnK]; decide) (by unfold ri_; omega) (tkk kK_286 (by decide)) fB_15_125 rfl ff_X12_345 dX12_init_954 (fun M1 e1 => ?_)
  subst e1
  have hf := jFr_up (c := 286) (i := 125) (v := ((376 : Nat) : Int)) hf (by decide)
  refine j_aload_n hO dX12_init_957 rfl 0 rfl ?_
  refine j_bipush hO dX12_init_958 (by decide) ?_
  refine kj_ai hx hb hts hK had hs hty.2.1 (n0 := 287) (i := 90) (N := 48) (n := 377) (i1 := 91) rfl rfl kK_377 rfl (by decide) om_1617 dX12_init_960 (Nat.le_of_ble_eq_true rfl) (jSl_m (by decide)) hf ?_
  have hf := jFr_w (n' := 378) hf (by decide)
  have hO := kj_ok (rm := ({ frames := 3, cells := 102, slots := jSl ftB ksK 389 - jSl ftB ksK 287, locals := 65 } : Room)) (ft := ftB) (Qs := Qs) (i := 91) (rk := 5) (post := fun _ _ => True) hc (by rw [lnK]; decide) (Nat.le_of_ble_eq_true rfl) (jSl_m (by decide)) (Or.inl rfl)
  refine kj_pqa hx hb hts hK had hs hown hin2 (n0 := 287) (i := 91) (v := 377) (by rw [lnK]; decide) (by unfold ri_; omega) (tkk kK_286 (by decide)) fB_15_126 rfl ff_X12_348 dX12_init_962 (fun M1 e1 => ?_)
  subst e1
  have hf := jFr_up (c := 286) (i := 126) (v := ((377 : Nat) : Int)) hf (by decide)
  refine j_aload_n hO dX12_init_965 rfl 0 rfl ?_
  refine j_bipush hO dX12_init_966 (by decide) ?_
  refine kj_ai hx hb hts hK had hs hty.2.1 (n0 := 287) (i := 91) (N := 12) (n := 378) (i1 := 92) rfl rfl kK_378 rfl (by decide) om_1617 dX12_init_968 (Nat.le_of_ble_eq_true rfl) (jSl_m (by decide)) hf ?_
  have hf := jFr_w (n' := 379) hf (by decide)
  have hO := kj_ok (rm := ({ frames := 3, cells := 102, slots := jSl ftB ksK 389 - jSl ftB ksK 287, locals := 65 } : Room)) (ft := ftB) (Qs := Qs) (i := 92) (rk := 5) (post := fun _ _ => True) hc (by rw [lnK]; decide) (Nat.le_of_ble_eq_true rfl) (jSl_m (by decide)) (Or.inl rfl)
  refine kj_pqa hx hb hts hK had hs hown hin2 (n0 := 287) (i := 92) (v := 378) (by rw [lnK]; decide) (by unfold ri_; omega) (tkk kK_286 (by decide)) fB_15_127 rfl ff_X12_351 dX12_init_970 (fun M1 e1 => ?_)
  subst e1
  have hf := jFr_up (c := 286) (i := 127) (v := ((378 : Nat) : Int)) hf (by decide)
  refine j_aload_n hO dX12_init_973 rfl 0 rfl ?_
  refine j_bipush hO dX12_init_974 (by decide) ?_
  refine kj_ai hx hb hts hK had hs hty.2.1 (n0 := 287) (i := 92) (N := 9) (n := 379) (i1 := 93) rfl rfl kK_379 rfl (by decide) om_1617 dX12_init_976 (Nat.le_of_ble_eq_true rfl) (jSl_m (by decide)) hf ?_
  have hf := jFr_w (n' := 380) hf (by decide)
  have hO := kj_ok (rm := ({ frames := 3, cells := 102, slots := jSl ftB ksK 389 - jSl ftB ksK 287, locals := 65 } : Room)) (ft := ftB) (Qs := Qs) (i := 93) (rk := 5) (post := fun _ _ => True) hc (by rw [lnK]; decide) (Nat.le_of_ble_eq_true rfl) (jSl_m (by decide)) (Or.inl rfl)
  refine kj_pqa hx hb hts hK had hs hown hin2 (n0 := 287) (i := 93) (v := 379) (by rw [lnK]; decide) (by unfold ri_; omega) (tkk kK_286 (by decide)) fB_15_128 rfl ff_X12_354 dX12_init_978 (fun M1 e1 => ?_)
  subst e1
  have hf := jFr_up (c := 286) (i := 128) (v := ((379 : Nat) : Int)) hf (by decide)
  refine j_aload_n hO dX12_init_981 rfl 0 rfl ?_
  refine j_sipush hO dX12_init_982 (by decide) ?_
  refine kj_az hx hb hts hK had hs hty.2.2.2 (n0 := 287) (i := 93) (N := 240) (n := 380) (i1 := 94) rfl rfl kK_380 rfl (by decide) om_1646 dX12_init_985 (Nat.le_of_ble_eq_true rfl) (jSl_m (by decide)) hf ?_
  have hf := jFr_w (n' := 381) hf (by decide)
  have hO := kj_ok (rm := ({ frames := 3, cells := 102, slots := jSl ftB ksK 389 - jSl ftB ksK 287, locals := 65 } : Room)) (ft := ftB) (Qs := Qs) (i := 94) (rk := 5) (post := fun _ _ => True) hc (by rw [lnK]; decide) (Nat.le_of_ble_eq_true rfl) (jSl_m (by decide)) (Or.inl rfl)
  refine kj_pqa hx hb hts hK had hs hown hin2 (n0 := 287) (i := 94) (v := 380) (by rw [lnK]; decide) (by unfold ri_; omega) (tkk kK_286 (by decide)) fB_15_129 rfl ff_X12_357 dX12_init_987 (fun M1 e1 => ?_)
  subst e1
  have hf := jFr_up (c := 286) (i := 129) (v := ((380 : Nat) : Int)) hf (by decide)
  refine j_aload_n hO dX12_init_990 rfl 0 rfl ?_
  refine j_sipush hO dX12_init_991 (by decide) ?_
  refine kj_az hx hb hts hK had hs hty.2.2.2 (n0 := 287) (i := 94) (N := 9600) (n := 381) (i1 := 95) rfl rfl kK_381 rfl (by decide) om_1646 dX12_init_994 (Nat.le_of_ble_eq_true rfl) (jSl_m (by decide)) hf ?_
  have hf := jFr_w (n' := 382) hf (by decide)
  have hO := kj_ok (rm := ({ frames := 3, cells := 102, slots := jSl ftB ksK 389 - jSl ftB ksK 287, locals := 65 } : Room)) (ft := ftB) (Qs := Qs) (i := 95) (rk := 5) (post := fun _ _ => True) hc (by rw [lnK]; decide) (Nat.le_of_ble_eq_true rfl) (jSl_m (by decide)) (Or.inl rfl)
  refine kj_pqa hx hb hts hK had hs hown hin2 (n0 := 287) (i := 95) (v := 381) (by rw [lnK]; decide) (by unfold ri_; omega) (tkk kK_286 (by decide)) fB_15_130 rfl ff_X12_360 dX12_init_996 (fun M1 e1 => ?_)
  subst e1
  have hf := jFr_up (c := 286) (i := 130) (v := ((381 : Nat) : Int)) hf (by decide)
  refine j_aload_n hO dX12_init_999 rfl 0 rfl ?_
  refine j_bipush hO dX12_init_1000 (by decide) ?_
  refine kj_az hx hb hts hK had hs hty.2.2.2 (n0 := 287) (i := 95) (N := 9) (n := 382) (i1 := 96) rfl rfl kK_382 rfl (by decide) om_1646 dX12_init_1002 (Nat.le_of_ble_eq_true rfl) (jSl_m (by decide)) hf ?_
  have hf := jFr_w (n' := 383) hf (by decide)
  have hO := kj_ok (rm := ({ frames := 3, cells := 102, slots := jSl ftB ksK 389 - jSl ftB ksK 287, locals := 65 } : Room)) (ft := ftB) (Qs := Qs) (i := 96) (rk := 5) (post := fun _ _ => True) hc (by rw [lnK]; decide) (Nat.le_of_ble_eq_true rfl) (jSl_m (by decide)) (Or.inl rfl)
  refine kj_pqa hx hb hts hK had hs hown hin2 (n0 := 287) (i := 96) (v := 382) (by rw [lnK]; decide) (by unfold ri_; omega) (tkk kK_286 (by decide)) fB_15_131 rfl ff_X12_363 dX12_init_1004 (fun M1 e1 => ?_)
  subst e1
  have hf := jFr_up (c := 286) (i := 131) (v := ((382 : Nat) : Int)) hf (by decide)
  refine j_aload_n hO dX12_init_1007 rfl 0 rfl ?_
  refine j_bipush hO dX12_init_1008 (by decide) ?_
  refine kj_az hx hb hts hK had hs hty.2.2.2 (n0 := 287) (i := 96) (N := 9) (n := 383) (i1 := 97) rfl rfl kK_383 rfl (by decide) om_1646 dX12_init_1010 (Nat.le_of_ble_eq_true rfl) (jSl_m (by decide)) hf ?_
  have hf := jFr_w (n' := 384) hf (by decide)
  have hO := kj_ok (rm := ({ frames := 3, cells := 102, slots := jSl ftB ksK 389 - jSl ftB ksK 287, locals := 65 } : Room)) (ft := ftB) (Qs := Qs) (i := 97) (rk := 5) (post := fun _ _ => True) hc (by rw [lnK]; decide) (Nat.le_of_ble_eq_true rfl) (jSl_m (by decide)) (Or.inl rfl)
  refine kj_pqa hx hb hts hK had hs hown hin2 (n0 := 287) (i := 97) (v := 383) (by rw [lnK]; decide) (by unfold ri_; omega) (tkk kK_286 (by decide)) fB_15_132 rfl ff_X12_366 dX12_init_1012 (fun M1 e1 => ?_)
  subst e1
  have hf := jFr_up (c := 286) (i := 132) (v := ((383 : Nat) : Int)) hf (by decide)
  refine j_aload_n hO dX12_init_1015 rfl 0 rfl ?_
  refine j_sipush hO dX12_init_1016 (by decide) ?_
  refine kj_ab hx hb hts hK had hs hty.1 (n0 := 287) (i := 97) (N := 9000) (n := 384) (i1 := 98) rfl rfl kK_384 rfl (by decide) om_1842 dX12_init_1019 (Nat.le_of_ble_eq_true rfl) (jSl_m (by decide)) hf ?_
  have hf := jFr_w (n' := 385) hf (by decide)
  have hO := kj_ok (rm := ({ frames := 3, cells := 102, slots := jSl ftB ksK 389 - jSl ftB ksK 287, locals := 65 } : Room)) (ft := ftB) (Qs := Qs) (i := 98) (rk := 5) (post := fun _ _ => True) hc (by rw [lnK]; decide) (Nat.le_of_ble_eq_true rfl) (jSl_m (by decide)) (Or.inl rfl)
  refine kj_pqa hx hb hts hK had hs hown hin2 (n0 := 287) (i := 98) (v := 384) (by rw [lnK]; decide) (by unfold ri_; omega) (tkk kK_286 (by decide)) fB_15_139 rfl ff_X12_369 dX12_init_1021 (fun M1 e1 => ?_)
  subst e1
  have hf := jFr_up (c := 286) (i := 139) (v := ((384 : Nat) : Int)) hf (by decide)
  refine j_aload_n hO dX12_init_1024 rfl 0 rfl ?_
  refine j_sipush hO dX12_init_1025 (by decide) ?_
  refine kj_ab hx hb hts hK had hs hty.1 (n0 := 287) (i := 98) (N := 8000) (n := 385) (i1 := 99) rfl rfl kK_385 rfl (by decide) om_1842 dX12_init_1028 (Nat.le_of_ble_eq_true rfl) (jSl_m (by decide)) hf ?_
  have hf := jFr_w (n' := 386) hf (by decide)
  have hO := kj_ok (rm := ({ frames := 3, cells := 102, slots := jSl ftB ksK 389 - jSl ftB ksK 287, locals := 65 } : Room)) (ft := ftB) (Qs := Qs) (i := 99) (rk := 5) (post := fun _ _ => True) hc (by rw [lnK]; decide) (Nat.le_of_ble_eq_true rfl) (jSl_m (by decide)) (Or.inl rfl)
  refine kj_pqa hx hb hts hK had hs hown hin2 (n0 := 287) (i := 99) (v := 385) (by rw [lnK]; decide) (by unfold ri_; omega) (tkk kK_286 (by decide)) fB_15_140 rfl ff_X12_372 dX12_init_1030 (fun M1 e1 => ?_)
  subst e1
  have hf := jFr_up (c := 286) (i := 140) (v := ((385 : Nat) : Int)) hf (by decide)
  refine j_aload_n hO dX12_init_1033 rfl 0 rfl ?_
  refine j_sipush hO dX12_init_1034 (by decide) ?_
  refine kj_ai hx hb hts hK had hs hty.2.1 (n0 := 287) (i := 99) (N := 400) (n := 386) (i1 := 100) rfl rfl kK_386 rfl (by decide) om_1617 dX12_init_1037 (Nat.le_of_ble_eq_true rfl) (jSl_m (by decide)) hf ?_
  have hf := jFr_w (n' := 387) hf (by decide)
  have hO := kj_ok (rm := ({ frames := 3, cells := 102, slots := jSl ftB ksK 389 - jSl ftB ksK 287, locals := 65 } : Room)) (ft := ftB) (Qs := Qs) (i := 100) (rk := 5) (post := fun _ _ => True) hc (by rw [lnK]; decide) (Nat.le_of_ble_eq_true rfl) (jSl_m (by decide)) (Or.inl rfl)
  refine kj_pqa hx hb hts hK had hs hown hin2 (n0 := 287) (i := 100) (v := 386) (by rw [lnK]; decide) (by unfold ri_; omega) (tkk kK_286 (by decide)) fB_15_144 rfl ff_X12_375 dX12_init_1039 (fun M1 e1 => ?_)
  subst e1
  have hf := jFr_up (c := 286) (i := 144) (v := ((386 : Nat) : Int)) hf (by decide)
  refine j_aload_n hO dX12_init_1042 rfl 0 rfl ?_
  refine j_sipush hO dX12_init_1043 (by decide) ?_
  refine kj_ai hx hb hts hK had hs hty.2.1 (n0 := 287) (i := 100) (N := 4000) (n := 387) (i1 := 101) rfl rfl kK_387 rfl (by decide) om_1617 dX12_init_1046 (Nat.le_of_ble_eq_true rfl) (jSl_m (by decide)) hf ?_
  have hf := jFr_w (n' := 388) hf (by decide)
  have hO := kj_ok (rm := ({ frames := 3, cells := 102, slots := jSl ftB ksK 389 - jSl ftB ksK 287, locals := 65 } : Room)) (ft := ftB) (Qs := Qs) (i := 101) (rk := 5) (post := fun _ _ => True) hc (by rw [lnK]; decide) (Nat.le_of_ble_eq_true rfl) (jSl_m (by decide)) (Or.inl rfl)
  refine kj_pqa hx hb hts hK had hs hown hin2 (n0 := 287) (i := 101) (v := 387) (by rw [lnK]; decide) (by unfold ri_; omega) (tkk kK_286 (by decide)) fB_15_145 rfl ff_X12_378 dX12_init_1048 (fun M1 e1 => ?_)
  subst e1
  have hf := jFr_up (c := 286) (i := 145) (v := ((387 : Nat) : Int)) hf (by decide)
  refine j_aload_n hO dX12_init_1051 rfl 0 rfl ?_
  refine j_sipush hO dX12_init_1052 (by decide) ?_
  refine kj_ai hx hb hts hK had hs hty.2.1 (n0 := 287) (i := 101) (N := 1000) (n := 388) (i1 := 102) rfl rfl kK_388 rfl (by decide) om_1617 dX12_init_1055 (Nat.le_of_ble_eq_true rfl) (jSl_m (by decide)) hf ?_
  have hf := jFr_w (n' := 389) hf (by decide)
  have hO := kj_ok (rm := ({ frames := 3, cells := 102, slots := jSl ftB ksK 389 - jSl ftB ksK 287, locals := 65 } : Room)) (ft := ftB) (Qs := Qs) (i := 102) (rk := 5) (post := fun _ _ => True) hc (by rw [lnK]; decide) (Nat.le_of_ble_eq_true rfl) (jSl_m (by decide)) (Or.inl rfl)
  refine kj_pqa hx hb hts hK had hs hown hin2 (n0 := 287) (i := 102) (v := 388) (by rw [lnK]; decide) (by unfold ri_; omega) (tkk kK_286 (by decide)) fB_15_147 rfl ff_X12_381 dX12_init_1057 (fun M1 e1 => ?_)
  subst e1
  have hf := jFr_up (c := 286) (i := 147) (v := ((388 : Nat) : Int)) hf (by decide)
  refine j_iconst hO dX12_init_1060 ?_
  refine j_istore_n (lv' := [(1, .int (Ii 0)), (0, .ref (ad 286))]) hO dX12_init_1061 rfl (by decide) rfl ?_
  have hO := kj_ok (rm := ({ frames := 3, cells := 102, slots := jSl ftB ksK 389 - jSl ftB ksK 287, locals := 65 } : Room)) (ft := ftB) (Qs := Qs) (i := 102) (rk := 0) (post := fun _ u => post u) hc (by rw [lnK]; decide) (Nat.le_of_ble_eq_true rfl) (jSl_m (by decide)) (Or.inr ⟨rfl, fun pc lv M hd hq => hret pc lv M hd hq⟩)
  refine j_sub hO [1, 0] rfl (k_X12_init_b1062 (xs := xs) (L := L) (by rw [tkl (by rw [lnK]; decide)]; exact jIn_b (fun k hk => had k (by rw [lnK]; omega))) (tkk kK_286 (by decide)) (tkk kK_289 (by decide)) hO 0 _ rk_0 (p_X12 (by rfl) (fun k hk => match k, hk with | 0, _ => rfl | 1, _ => rfl | 2, _ => rfl | 3, _ => rfl | 4, _ => rfl | 5, _ => rfl | 6, _ => rfl | 7, _ => rfl | 8, _ => rfl | 9, _ => rfl | 10, _ => rfl | 11, _ => rfl | 12, _ => rfl | 13, _ => rfl | 14, _ => rfl | 15, _ => rfl | 16, _ => rfl | 17, _ => rfl | 18, _ => rfl | 19, _ => rfl | 20, _ => rfl | 21, _ => rfl | 22, _ => rfl | 23, _ => rfl | 24, _ => rfl | 25, _ => rfl | 26, _ => rfl | 27, _ => rfl | 28, _ => rfl | k + 29, h => absurd h (by omega)) hF))
