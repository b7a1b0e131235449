set_option maxHeartbeats 4000000 in
set_option maxRecDepth 100000 in
theorem c_X5_init_178 {l : Launch} {D : va_G} {cy : Nat → ClassId} {ad : Nat → Nat} {xs : Nat → Int} {L b0 : Nat} (had : ∀ k, k < ksK.length → ad k = b0 + k) : jKN l D vwCl (tyB cy) cy ad ftB ksK (XtB ad xs L) yX5_init (.code yX5_init cX5_init 2 none :: Om) ({ frames := 2, cells := 32, slots := jSl ftB ksK 211 - jSl ftB ksK 179, locals := 41 } : Room) b0 179 32 (W_X5_init_178 ad) := by
  refine jKN_of (y := yX5_init) (cc := cX5_init) (nL := 2) (rm := ({ frames := 2, cells := 32, slots := jSl ftB ksK 211 - jSl ftB ksK 179, locals := 41 } : Room)) (own := RX5) (tyB_ok cy) had (XtB_ok ad xs L) Om_good (by decide) rfl rfl ?_
  intro post av M hF
  obtain ⟨rfl, hf, hF⟩ := hF
  refine ⟨Nat.le_of_ble_eq_true rfl, fun p e s m below meth c Qs hc hin2 hret => ?_⟩
  obtain ⟨hx, hb, hml, hown, hts, hK, hty, -, hgo, hXc, hXt, hs⟩ := id hc
  have hO := kj_ok (rm := ({ frames := 2, cells := 32, slots := jSl ftB ksK 211 - jSl ftB ksK 179, locals := 41 } : Room)) (ft := ftB) (Qs := Qs) (i := 0) (rk := 5) (post := fun _ _ => True) hc (by rw [lnK]; decide) (Nat.le_of_ble_eq_true rfl) (jSl_m (by decide)) (Or.inl rfl)
  refine j_aload_n hO dX5_init_0 rfl 0 rfl ?_
  refine kj_obj hx hb hml hts hown ⟨om_1702, om_1612, om_1613⟩ dX5_init_1 (Nat.le_of_ble_eq_true rfl) (Nat.le_of_ble_eq_true rfl) (Nat.le_of_ble_eq_true rfl) ?_
  refine j_aload_n hO dX5_init_4 rfl 0 rfl ?_
  refine j_sipush hO dX5_init_5 (by decide) ?_
  refine kj_ai hx hb hts hK had hs hty.2.1 (n0 := 179) (i := 0) (N := 400) (n := 179) (i1 := 1) rfl rfl kK_179 rfl (by decide) om_1617 dX5_init_8 (Nat.le_of_ble_eq_true rfl) (jSl_m (by decide)) hf ?_
  have hf := jFr_w (n' := 180) hf (by decide)
  have hO := kj_ok (rm := ({ frames := 2, cells := 32, slots := jSl ftB ksK 211 - jSl ftB ksK 179, locals := 41 } : Room)) (ft := ftB) (Qs := Qs) (i := 1) (rk := 5) (post := fun _ _ => True) hc (by rw [lnK]; decide) (Nat.le_of_ble_eq_true rfl) (jSl_m (by decide)) (Or.inl rfl)
  refine kj_pqa hx hb hts hK had hs hown hin2 (n0 := 179) (i := 1) (v := 179) (by rw [lnK]; decide) (by unfold ri_; omega) (tkk kK_178 (by decide)) fB_8_1 rfl ff_X5_11 dX5_init_10 (fun M1 e1 => ?_)
  subst e1
  have hf := jFr_up (c := 178) (i := 1) (v := ((179 : Nat) : Int)) hf (by decide)
  refine j_aload_n hO dX5_init_13 rfl 0 rfl ?_
  refine j_sipush hO dX5_init_14 (by decide) ?_
  refine kj_ai hx hb hts hK had hs hty.2.1 (n0 := 179) (i := 1) (N := 400) (n := 180) (i1 := 2) rfl rfl kK_180 rfl (by decide) om_1617 dX5_init_17 (Nat.le_of_ble_eq_true rfl) (jSl_m (by decide)) hf ?_
  have hf := jFr_w (n' := 181) hf (by decide)
  have hO := kj_ok (rm := ({ frames := 2, cells := 32, slots := jSl ftB ksK 211 - jSl ftB ksK 179, locals := 41 } : Room)) (ft := ftB) (Qs := Qs) (i := 2) (rk := 5) (post := fun _ _ => True) hc (by rw [lnK]; decide) (Nat.le_of_ble_eq_true rfl) (jSl_m (by decide)) (Or.inl rfl)
  refine kj_pqa hx hb hts hK had hs hown hin2 (n0 := 179) (i := 2) (v := 180) (by rw [lnK]; decide) (by unfold ri_; omega) (tkk kK_178 (by decide)) fB_8_2 rfl ff_X5_15 dX5_init_19 (fun M1 e1 => ?_)
  subst e1
  have hf := jFr_up (c := 178) (i := 2) (v := ((180 : Nat) : Int)) hf (by decide)
  refine j_aload_n hO dX5_init_22 rfl 0 rfl ?_
  refine j_sipush hO dX5_init_23 (by decide) ?_
  refine kj_ai hx hb hts hK had hs hty.2.1 (n0 := 179) (i := 2) (N := 400) (n := 181) (i1 := 3) rfl rfl kK_181 rfl (by decide) om_1617 dX5_init_26 (Nat.le_of_ble_eq_true rfl) (jSl_m (by decide)) hf ?_
  have hf := jFr_w (n' := 182) hf (by decide)
  have hO := kj_ok (rm := ({ frames := 2, cells := 32, slots := jSl ftB ksK 211 - jSl ftB ksK 179, locals := 41 } : Room)) (ft := ftB) (Qs := Qs) (i := 3) (rk := 5) (post := fun _ _ => True) hc (by rw [lnK]; decide) (Nat.le_of_ble_eq_true rfl) (jSl_m (by decide)) (Or.inl rfl)
  refine kj_pqa hx hb hts hK had hs hown hin2 (n0 := 179) (i := 3) (v := 181) (by rw [lnK]; decide) (by unfold ri_; omega) (tkk kK_178 (by decide)) fB_8_3 rfl ff_X5_18 dX5_init_28 (fun M1 e1 => ?_)
  subst e1
  have hf := jFr_up (c := 178) (i := 3) (v := ((181 : Nat) : Int)) hf (by decide)
  refine j_aload_n hO dX5_init_31 rfl 0 rfl ?_
  refine j_sipush hO dX5_init_32 (by decide) ?_
  refine kj_ai hx hb hts hK had hs hty.2.1 (n0 := 179) (i := 3) (N := 401) (n := 182) (i1 := 4) rfl rfl kK_182 rfl (by decide) om_1617 dX5_init_35 (Nat.le_of_ble_eq_true rfl) (jSl_m (by decide)) hf ?_
  have hf := jFr_w (n' := 183) hf (by decide)
  have hO := kj_ok (rm := ({ frames := 2, cells := 32, slots := jSl ftB ksK 211 - jSl ftB ksK 179, locals := 41 } : Room)) (ft := ftB) (Qs := Qs) (i := 4) (rk := 5) (post := fun _ _ => True) hc (by rw [lnK]; decide) (Nat.le_of_ble_eq_true rfl) (jSl_m (by decide)) (Or.inl rfl)
  refine kj_pqa hx hb hts hK had hs hown hin2 (n0 := 179) (i := 4) (v := 182) (by rw [lnK]; decide) (by unfold ri_; omega) (tkk kK_178 (by decide)) fB_8_4 rfl ff_X5_21 dX5_init_37 (fun M1 e1 => ?_)
  subst e1
  have hf := jFr_up (c := 178) (i := 4) (v := ((182 : Nat) : Int)) hf (by decide)
  refine j_aload_n hO dX5_init_40 rfl 0 rfl ?_
  refine j_sipush hO dX5_init_41 (by decide) ?_
  refine kj_ai hx hb hts hK had hs hty.2.1 (n0 := 179) (i := 4) (N := 400) (n := 183) (i1 := 5) rfl rfl kK_183 rfl (by decide) om_1617 dX5_init_44 (Nat.le_of_ble_eq_true rfl) (jSl_m (by decide)) hf ?_
  have hf := jFr_w (n' := 184) hf (by decide)
  have hO := kj_ok (rm := ({ frames := 2, cells := 32, slots := jSl ftB ksK 211 - jSl ftB ksK 179, locals := 41 } : Room)) (ft := ftB) (Qs := Qs) (i := 5) (rk := 5) (post := fun _ _ => True) hc (by rw [lnK]; decide) (Nat.le_of_ble_eq_true rfl) (jSl_m (by decide)) (Or.inl rfl)
  refine kj_pqa hx hb hts hK had hs hown hin2 (n0 := 179) (i := 5) (v := 183) (by rw [lnK]; decide) (by unfold ri_; omega) (tkk kK_178 (by decide)) fB_8_5 rfl ff_X5_24 dX5_init_46 (fun M1 e1 => ?_)
  subst e1
  have hf := jFr_up (c := 178) (i := 5) (v := ((183 : Nat) : Int)) hf (by decide)
  refine j_aload_n hO dX5_init_49 rfl 0 rfl ?_
  refine j_sipush hO dX5_init_50 (by decide) ?_
  refine kj_ai hx hb hts hK had hs hty.2.1 (n0 := 179) (i := 5) (N := 400) (n := 184) (i1 := 6) rfl rfl kK_184 rfl (by decide) om_1617 dX5_init_53 (Nat.le_of_ble_eq_true rfl) (jSl_m (by decide)) hf ?_
  have hf := jFr_w (n' := 185) hf (by decide)
  have hO := kj_ok (rm := ({ frames := 2, cells := 32, slots := jSl ftB ksK 211 - jSl ftB ksK 179, locals := 41 } : Room)) (ft := ftB) (Qs := Qs) (i := 6) (rk := 5) (post := fun _ _ => True) hc (by rw [lnK]; decide) (Nat.le_of_ble_eq_true rfl) (jSl_m (by decide)) (Or.inl rfl)
  refine kj_pqa hx hb hts hK had hs hown hin2 (n0 := 179) (i := 6) (v := 184) (by rw [lnK]; decide) (by unfold ri_; omega) (tkk kK_178 (by decide)) fB_8_6 rfl ff_X5_27 dX5_init_55 (fun M1 e1 => ?_)
  subst e1
  have hf := jFr_up (c := 178) (i := 6) (v := ((184 : Nat) : Int)) hf (by decide)
  refine j_aload_n hO dX5_init_58 rfl 0 rfl ?_
  refine j_sipush hO dX5_init_59 (by decide) ?_
  refine kj_ai hx hb hts hK had hs hty.2.1 (n0 := 179) (i := 6) (N := 400) (n := 185) (i1 := 7) rfl rfl kK_185 rfl (by decide) om_1617 dX5_init_62 (Nat.le_of_ble_eq_true rfl) (jSl_m (by decide)) hf ?_
  have hf := jFr_w (n' := 186) hf (by decide)
  have hO := kj_ok (rm := ({ frames := 2, cells := 32, slots := jSl ftB ksK 211 - jSl ftB ksK 179, locals := 41 } : Room)) (ft := ftB) (Qs := Qs) (i := 7) (rk := 5) (post := fun _ _ => True) hc (by rw [lnK]; decide) (Nat.le_of_ble_eq_true rfl) (jSl_m (by decide)) (Or.inl rfl)
  refine kj_pqa hx hb hts hK had hs hown hin2 (n0 := 179) (i := 7) (v := 185) (by rw [lnK]; decide) (by unfold ri_; omega) (tkk kK_178 (by decide)) fB_8_7 rfl ff_X5_30 dX5_init_64 (fun M1 e1 => ?_)
  subst e1
  have hf := jFr_up (c := 178) (i := 7) (v := ((185 : Nat) : Int)) hf (by decide)
  refine j_aload_n hO dX5_init_67 rfl 0 rfl ?_
  refine j_sipush hO dX5_init_68 (by decide) ?_
  refine kj_ai hx hb hts hK had hs hty.2.1 (n0 := 179) (i := 7) (N := 400) (n := 186) (i1 := 8) rfl rfl kK_186 rfl (by decide) om_1617 dX5_init_71 (Nat.le_of_ble_eq_true rfl) (jSl_m (by decide)) hf ?_
  have hf := jFr_w (n' := 187) hf (by decide)
  have hO := kj_ok (rm := ({ frames := 2, cells := 32, slots := jSl ftB ksK 211 - jSl ftB ksK 179, locals := 41 } : Room)) (ft := ftB) (Qs := Qs) (i := 8) (rk := 5) (post := fun _ _ => True) hc (by rw [lnK]; decide) (Nat.le_of_ble_eq_true rfl) (jSl_m (by decide)) (Or.inl rfl)
  refine kj_pqa hx hb hts hK had hs hown hin2 (n0 := 179) (i := 8) (v := 186) (by rw [lnK]; decide) (by unfold ri_; omega) (tkk kK_178 (by decide)) fB_8_8 rfl ff_X5_35 dX5_init_73 (fun M1 e1 => ?_)
  subst e1
  have hf := jFr_up (c := 178) (i := 8) (v := ((186 : Nat) : Int)) hf (by decide)
  refine j_aload_n hO dX5_init_76 rfl 0 rfl ?_
  refine j_gq (v := 186) hO (tkk kK_178 (by decide)) fB_8_8 rfl fl_X5_35 dX5_init_77 (by rfl) ?_
  refine j_iconst hO dX5_init_80 ?_
  refine j_callSv hO (c_J7_fill_53178_B (l := l) (D := D) (cy := cy) (ad := ad) (xs := xs) (L := L) (ksB := ksK.take (179 + 8)) (by rw [tkl (by rw [lnK]; decide)]; exact jIn_b (fun k hk => had k (by rw [lnK]; omega)))) rfl om_497 ⟨rfl, rfl, Nat.le_of_ble_eq_true rfl, Nat.le_of_ble_eq_true rfl⟩ [.ref (ad 186), .int (Ii (-1))] mv_X5_38 hd_J7_fill_53178 rfl (Nat.le_of_ble_eq_true rfl) dX5_init_81 (P := fun _ M1 => M1 = filled _ 186 0 (400 : Nat) (-1)) ⟨186, 400, (-1), rfl, (tkk kK_186 (by decide)), by decide, rk_m1, p_fillI (by decide) rfl⟩ (fun M1 e1 => ?_)
  subst e1
  have hf := jFr_fl (c := 186) (f := 0) (t := (400 : Nat)) (v := (-1)) hf (by decide)
  refine j_aload_n hO dX5_init_84 rfl 0 rfl ?_
  refine j_sipush hO dX5_init_85 (by decide) ?_
  refine kj_al hx hb hts hK had hs hty.2.2.1 (n0 := 179) (i := 8) (N := 4000) (n := 187) (i1 := 9) rfl rfl kK_187 rfl (by decide) om_1622 dX5_init_88 (Nat.le_of_ble_eq_true rfl) (jSl_m (by decide)) hf ?_
  have hf := jFr_w (n' := 188) hf (by decide)
  have hO := kj_ok (rm := ({ frames := 2, cells := 32, slots := jSl ftB ksK 211 - jSl ftB ksK 179, locals := 41 } : Room)) (ft := ftB) (Qs := Qs) (i := 9) (rk := 5) (post := fun _ _ => True) hc (by rw [lnK]; decide) (Nat.le_of_ble_eq_true rfl) (jSl_m (by decide)) (Or.inl rfl)
  refine kj_pqa hx hb hts hK had hs hown hin2 (n0 := 179) (i := 9) (v := 187) (by rw [lnK]; decide) (by unfold ri_; omega) (tkk kK_178 (by decide)) fB_8_9 rfl ff_X5_44 dX5_init_90 (fun M1 e1 => ?_)
  subst e1
  have hf := jFr_up (c := 178) (i := 9) (v := ((187 : Nat) : Int)) hf (by decide)
  refine j_aload_n hO dX5_init_93 rfl 0 rfl ?_
  refine j_sipush hO dX5_init_94 (by decide) ?_
  refine kj_az hx hb hts hK had hs hty.2.2.2 (n0 := 179) (i := 9) (N := 4000) (n := 188) (i1 := 10) rfl rfl kK_188 rfl (by decide) om_1646 dX5_init_97 (Nat.le_of_ble_eq_true rfl) (jSl_m (by decide)) hf ?_
  have hf := jFr_w (n' := 189) hf (by decide)
  have hO := kj_ok (rm := ({ frames := 2, cells := 32, slots := jSl ftB ksK 211 - jSl ftB ksK 179, locals := 41 } : Room)) (ft := ftB) (Qs := Qs) (i := 10) (rk := 5) (post := fun _ _ => True) hc (by rw [lnK]; decide) (Nat.le_of_ble_eq_true rfl) (jSl_m (by decide)) (Or.inl rfl)
  refine kj_pqa hx hb hts hK had hs hown hin2 (n0 := 179) (i := 10) (v := 188) (by rw [lnK]; decide) (by unfold ri_; omega) (tkk kK_178 (by decide)) fB_8_10 rfl ff_X5_48 dX5_init_99 (fun M1 e1 => ?_)
  subst e1
  have hf := jFr_up (c := 178) (i := 10) (v := ((188 : Nat) : Int)) hf (by decide)
  refine j_aload_n hO dX5_init_102 rfl 0 rfl ?_
  refine j_bipush hO dX5_init_103 (by decide) ?_
  refine kj_ai hx hb hts hK had hs hty.2.1 (n0 := 179) (i := 10) (N := 108) (n := 189) (i1 := 11) rfl rfl kK_189 rfl (by decide) om_1617 dX5_init_105 (Nat.le_of_ble_eq_true rfl) (jSl_m (by decide)) hf ?_
  have hf := jFr_w (n' := 190) hf (by decide)
  have hO := kj_ok (rm := ({ frames := 2, cells := 32, slots := jSl ftB ksK 211 - jSl ftB ksK 179, locals := 41 } : Room)) (ft := ftB) (Qs := Qs) (i := 11) (rk := 5) (post := fun _ _ => True) hc (by rw [lnK]; decide) (Nat.le_of_ble_eq_true rfl) (jSl_m (by decide)) (Or.inl rfl)
  refine kj_pqa hx hb hts hK had hs hown hin2 (n0 := 179) (i := 11) (v := 189) (by rw [lnK]; decide) (by unfold ri_; omega) (tkk kK_178 (by decide)) fB_8_12 rfl ff_X5_52 dX5_init_107 (fun M1 e1 => ?_)
  subst e1
  have hf := jFr_up (c := 178) (i := 12) (v := ((189 : Nat) : Int)) hf (by decide)
  refine j_aload_n hO dX5_init_110 rfl 0 rfl ?_
  refine j_bipush hO dX5_init_111 (by decide) ?_
  refine kj_ai hx hb hts hK had hs hty.2.1 (n0 := 179) (i := 11) (N := 108) (n := 190) (i1 := 12) rfl rfl kK_190 rfl (by decide) om_1617 dX5_init_113 (Nat.le_of_ble_eq_true rfl) (jSl_m (by decide)) hf ?_
  have hf := jFr_w (n' := 191) hf (by decide)
  have hO := kj_ok (rm := ({ frames := 2, cells := 32, slots := jSl ftB ksK 211 - jSl ftB ksK 179, locals := 41 } : Room)) (ft := ftB) (Qs := Qs) (i := 12) (rk := 5) (post := fun _ _ => True) hc (by rw [lnK]; decide) (Nat.le_of_ble_eq_true rfl) (jSl_m (by decide)) (Or.inl rfl)
  refine kj_pqa hx hb hts hK had hs hown hin2 (n0 := 179) (i := 12) (v := 190) (by rw [lnK]; decide) (by unfold ri_; omega) (tkk kK_178 (by decide)) fB_8_13 rfl ff_X5_55 dX5_init_115 (fun M1 e1 => ?_)
  subst e1
  have hf := jFr_up (c := 178) (i := 13) (v := ((190 : Nat) : Int)) hf (by decide)
  refine j_aload_n hO dX5_init_118 rfl 0 rfl ?_
  refine j_sipush hO dX5_init_119 (by decide) ?_
  refine kj_az hx hb hts hK had hs hty.2.2.2 (n0 := 179) (i := 12) (N := 400) (n := 191) (i1 := 13) rfl rfl kK_191 rfl (by decide) om_1646 dX5_init_122 (Nat.le_of_ble_eq_true rfl) (jSl_m (by decide)) hf ?_
  have hf := jFr_w (n' := 192) hf (by decide)
  have hO := kj_ok (rm := ({ frames := 2, cells := 32, slots := jSl ftB ksK 211 - jSl ftB ksK 179, locals := 41 } : Room)) (ft := ftB) (Qs := Qs) (i := 13) (rk := 5) (post := fun _ _ => True) hc (by rw [lnK]; decide) (Nat.le_of_ble_eq_true rfl) (jSl_m (by decide)) (Or.inl rfl)
  refine kj_pqa hx hb hts hK had hs hown hin2 (n0 := 179) (i := 13) (v := 191) (by rw [lnK]; decide) (by unfold ri_; omega) (tkk kK_178 (by decide)) fB_8_14 rfl ff_X5_58 dX5_init_124 (fun M1 e1 => ?_)
  subst e1
  have hf := jFr_up (c := 178) (i := 14) (v := ((191 : Nat) : Int)) hf (by decide)
  refine j_aload_n hO dX5_init_127 rfl 0 rfl ?_
  refine j_sipush hO dX5_init_128 (by decide) ?_
  refine kj_ai hx hb hts hK had hs hty.2.1 (n0 := 179) (i := 13) (N := 400) (n := 192) (i1 := 14) rfl rfl kK_192 rfl (by decide) om_1617 dX5_init_131 (Nat.le_of_ble_eq_true rfl) (jSl_m (by decide)) hf ?_
  have hf := jFr_w (n' := 193) hf (by decide)
  have hO := kj_ok (rm := ({ frames := 2, cells := 32, slots := jSl ftB ksK 211 - jSl ftB ksK 179, locals := 41 } : Room)) (ft := ftB) (Qs := Qs) (i := 14) (rk := 5) (post := fun _ _ => True) hc (by rw [lnK]; decide) (Nat.le_of_ble_eq_true rfl) (jSl_m (by decide)) (Or.inl rfl)
  refine kj_pqa hx hb hts hK had hs hown hin2 (n0 := 179) (i := 14) (v := 192) (by rw [lnK]; decide) (by unfold ri_; omega) (tkk kK_178 (by decide)) fB_8_15 rfl ff_X5_61 dX5_init_133 (fun M1 e1 => ?_)
  subst e1
  have hf := jFr_up (c := 178) (i := 15) (v := ((192 : Nat) : Int)) hf (by decide)
  refine j_aload_n hO dX5_init_136 rfl 0 rfl ?_
  refine j_sipush hO dX5_init_137 (by decide) ?_
  refine kj_ai hx hb hts hK had hs hty.2.1 (n0 := 179) (i := 14) (N := 400) (n := 193) (i1 := 15) rfl rfl kK_193 rfl (by decide) om_1617 dX5_init_140 (Nat.le_of_ble_eq_true rfl) (jSl_m (by decide)) hf ?_
  have hf := jFr_w (n' := 194) hf (by decide)
  have hO := kj_ok (rm := ({ frames := 2, cells := 32, slots := jSl ftB ksK 211 - jSl ftB ksK 179, locals := 41 } : Room)) (ft := ftB) (Qs := Qs) (i := 15) (rk := 5) (post := fun _ _ => True) hc (by rw [lnK]; decide) (Nat.le_of_ble_eq_true rfl) (jSl_m (by decide)) (Or.inl rfl)
  refine kj_pqa hx hb hts hK had hs hown hin2 (n0 := 179) (i := 15) (v := 193) (by rw [lnK]; decide) (by unfold ri_; omega) (tkk kK_178 (by decide)) fB_8_17 rfl ff_X5_64 dX5_init_142 (fun M1 e1 => ?_)
  subst e1
  have hf := jFr_up (c := 178) (i := 17) (v := ((193 : Nat) : Int)) hf (by decide)
  refine j_aload_n hO dX5_init_145 rfl 0 rfl ?_
  refine j_sipush hO dX5_init_146 (by decide) ?_
  refine kj_ai hx hb hts hK had hs hty.2.1 (n0 := 179) (i := 15) (N := 400) (n := 194) (i1 := 16) rfl rfl kK_194 rfl (by decide) om_1617 dX5_init_149 (Nat.le_of_ble_eq_true rfl) (jSl_m (by decide)) hf ?_
  have hf := jFr_w (n' := 195) hf (by decide)
  have hO := kj_ok (rm := ({ frames := 2, cells := 32, slots := jSl ftB ksK 211 - jSl ftB ksK 179, locals := 41 } : Room)) (ft := ftB) (Qs := Qs) (i := 16) (rk := 5) (post := fun _ _ => True) hc (by rw [lnK]; decide) (Nat.le_of_ble_eq_true rfl) (jSl_m (by decide)) (Or.inl rfl)
  refine kj_pqa hx hb hts hK had hs hown hin2 (n0 := 179) (i := 16) (v := 194) (by rw [lnK]; decide) (by unfold ri_; omega) (tkk kK_178 (by decide)) fB_8_18 rfl ff_X5_67 dX5_init_151 (fun M1 e1 => ?_)
  subst e1
  have hf := jFr_up (c := 178) (i := 18) (v := ((194 : Nat) : Int)) hf (by decide)
  refine j_aload_n hO dX5_init_154 rfl 0 rfl ?_
  refine j_sipush hO dX5_init_155 (by decide) ?_
  refine kj_ai hx hb hts hK had hs hty.2.1 (n0 := 179) (i := 16) (N := 400) (n := 195) (i1 := 17) rfl rfl kK_195 rfl (by decide) om_1617 dX5_init_158 (Nat.le_of_ble_eq_true rfl) (jSl_m (by decide)) hf ?_
  have hf := jFr_w (n' := 196) hf (by decide)
  have hO := kj_ok (rm := ({ frames := 2, cells := 32, slots := jSl ftB ksK 211 - jSl ftB ksK 179, locals := 41 } : Room)) (ft := ftB) (Qs := Qs) (i := 17) (rk := 5) (post := fun _ _ => True) hc (by rw [lnK]; decide) (Nat.le_of_ble_eq_true rfl) (jSl_m (by decide)) (Or.inl rfl)
  refine kj_pqa hx hb hts hK had hs hown hin2 (n0 := 179) (i := 17) (v := 195) (by rw [lnK]; decide) (by unfold ri_; omega) (tkk kK_178 (by decide)) fB_8_19 rfl ff_X5_70 dX5_init_160 (fun M1 e1 => ?_)
  subst e1
  have hf := jFr_up (c := 178) (i := 19) (v := ((195 : Nat) : Int)) hf (by decide)
  refine j_aload_n hO dX5_init_163 rfl 0 rfl ?_
  refine kj_new hx hb hts hK had hs hown (n0 := 179) (i := 17) (n := 196) (i1 := 18) rfl rfl kK_196 nc_X5_73 dX5_init_164 (Nat.le_of_ble_eq_true rfl) (jSl_m (by decide)) hf ?_
  have hf := jFr_w (n' := 197) hf (by decide)
  have hO := kj_ok (rm := ({ frames := 2, cells := 32, slots := jSl ftB ksK 211 - jSl ftB ksK 179, locals := 41 } : Room)) (ft := ftB) (Qs := Qs) (i := 18) (rk := 5) (post := fun _ _ => True) hc (by rw [lnK]; decide) (Nat.le_of_ble_eq_true rfl) (jSl_m (by decide)) (Or.inl rfl)
  refine j_dup hO dX5_init_167 rfl ?_
  refine j_aload_n hO dX5_init_168 rfl 1 rfl ?_
  refine kj_call hx hb hts hK had hs hml hown hgo hXc hXt (n0 := 179) (i := 18) (nn := 197) (i2 := 32) (c0 := 196) rfl rfl (c_X8_init_196 (l := l) (D := D) (cy := cy) (xs := xs) (L := L) had) rfl om_1739 ⟨rfl, rfl, Nat.le_of_ble_eq_true rfl, Nat.le_of_ble_eq_true rfl⟩ [.ref (ad 8)] ⟨om_1740, om_1741, om_422⟩ rfl hd_X8_init rfl (Nat.le_of_ble_eq_true rfl) dX5_init_169 (by rw [lnK]; decide) (Nat.le_of_ble_eq_true rfl) (jSl_m (by decide)) (P := fun M1 => M1 = T_X8_init_196 _) ⟨rfl, hf, rfl⟩ (fun M1 e1 => ?_)
  subst e1
  have hf := fr_X8_init_196 (n := 211) (by decide) (jFr_w (n' := 211) hf (by decide))
  have hO := kj_ok (rm := ({ frames := 2, cells := 32, slots := jSl ftB ksK 211 - jSl ftB ksK 179, locals := 41 } : Room)) (ft := ftB) (Qs := Qs) (i := 32) (rk := 5) (post := fun _ _ => True) hc (by rw [lnK]; decide) (Nat.le_of_ble_eq_true rfl) (jSl_m (by decide)) (Or.inl rfl)
  refine kj_pq hx hb hts hK had hs hown hin2 (n0 := 179) (i := 32) (v := 196) (by rw [lnK]; decide) (by unfold ri_; omega) (tkk kK_178 (by decide)) fB_8_20 rfl ff_X5_78 dX5_init_172 (fun M1 e1 => ?_)
  subst e1
  have hf := jFr_up (c := 178) (i := 20) (v := ((196 : Nat) : Int)) hf (by decide)
  exact hret _ _ _ dX5_init_175 hF
set_option maxHeartbeats 4000000 in
set_option maxRecDepth 100000 in
theorem c_X6_init_211 {l : Launch} {D : va_G} {cy : Nat → ClassId} {ad : Nat → Nat} {xs : Nat → Int} {L b0 : Nat} (had : ∀ k, k < ksK.length → ad k = b0 + k) : jKN l D vwCl (tyB cy) cy ad ftB ksK (XtB ad xs L) yX6_init (.code yX6_init cX6_init 2 none :: Om) ({ frames := 1, cells := 7, slots := jSl ftB ksK 219 - jSl ftB ksK 212, locals := 20 } : Room) b0 212 7 (W_X6_init_211 ad) := by
  refine jKN_of (y := yX6_init) (cc := cX6_init) (nL := 2) (rm := ({ frames := 1, cells := 7, slots := jSl ftB ksK 219 - jSl ftB ksK 212, locals := 20 } : Room)) (own := RX6) (tyB_ok cy) had (XtB_ok ad xs L) Om_good (by decide) rfl rfl ?_
  intro post av M hF
  obtain ⟨rfl, hf, hF⟩ := hF
  refine ⟨Nat.le_of_ble_eq_true rfl, fun p e s m below meth c Qs hc hin2 hret => ?_⟩
  obtain ⟨hx, hb, hml, hown, hts, hK, hty, -, hgo, hXc, hXt, hs⟩ := id hc
  have hO := kj_ok (rm := ({ frames := 1, cells := 7, slots := jSl ftB ksK 219 - jSl ftB ksK 212, locals := 20 } : Room)) (ft := ftB) (Qs := Qs) (i := 0) (rk := 5) (post := fun _ _ => True) hc (by rw [lnK]; decide) (Nat.le_of_ble_eq_true rfl) (jSl_m (by decide)) (Or.inl rfl)
  refine j_aload_n hO dX6_init_0 rfl 0 rfl ?_
  refine kj_obj hx hb hml hts hown ⟨om_1749, om_1612, om_1613⟩ dX6_init_1 (Nat.le_of_ble_eq_true rfl) (Nat.le_of_ble_eq_true rfl) (Nat.le_of_ble_eq_true rfl) ?_
  refine j_aload_n hO dX6_init_4 rfl 0 rfl ?_
  refine j_aload_n hO dX6_init_5 rfl 1 rfl ?_
  refine kj_pq hx hb hts hK had hs hown hin2 (n0 := 212) (i := 0) (v := 1) (by rw [lnK]; decide) (by unfold ri_; omega) (tkk kK_211 (by decide)) fB_9_0 rfl ff_X6_9 dX6_init_6 (fun M1 e1 => ?_)
  subst e1
  have hf := jFr_up (c := 211) (i := 0) (v := ((1 : Nat) : Int)) hf (by decide)
  refine j_aload_n hO dX6_init_9 rfl 0 rfl ?_
  refine j_sipush hO dX6_init_10 (by decide) ?_
  refine kj_ai hx hb hts hK had hs hty.2.1 (n0 := 212) (i := 0) (N := 500) (n := 212) (i1 := 1) rfl rfl kK_212 rfl (by decide) om_1617 dX6_init_13 (Nat.le_of_ble_eq_true rfl) (jSl_m (by decide)) hf ?_
  have hf := jFr_w (n' := 213) hf (by decide)
  have hO := kj_ok (rm := ({ frames := 1, cells := 7, slots := jSl ftB ksK 219 - jSl ftB ksK 212, locals := 20 } : Room)) (ft := ftB) (Qs := Qs) (i := 1) (rk := 5) (post := fun _ _ => True) hc (by rw [lnK]; decide) (Nat.le_of_ble_eq_true rfl) (jSl_m (by decide)) (Or.inl rfl)
  refine kj_pqa hx hb hts hK had hs hown hin2 (n0 := 212) (i := 1) (v := 212) (by rw [lnK]; decide) (by unfold ri_; omega) (tkk kK_211 (by decide)) fB_9_1 rfl ff_X6_15 dX6_init_15 (fun M1 e1 => ?_)
  subst e1
  have hf := jFr_up (c := 211) (i := 1) (v := ((212 : Nat) : Int)) hf (by decide)
  refine j_aload_n hO dX6_init_18 rfl 0 rfl ?_
  refine j_sipush hO dX6_init_19 (by decide) ?_
  refine kj_ai hx hb hts hK had hs hty.2.1 (n0 := 212) (i := 1) (N := 500) (n := 213) (i1 := 2) rfl rfl kK_213 rfl (by decide) om_1617 dX6_init_22 (Nat.le_of_ble_eq_true rfl) (jSl_m (by decide)) hf ?_
  have hf := jFr_w (n' := 214) hf (by decide)
  have hO := kj_ok (rm := ({ frames := 1, cells := 7, slots := jSl ftB ksK 219 - jSl ftB ksK 212, locals := 20 } : Room)) (ft := ftB) (Qs := Qs) (i := 2) (rk := 5) (post := fun _ _ => True) hc (by rw [lnK]; decide) (Nat.le_of_ble_eq_true rfl) (jSl_m (by decide)) (Or.inl rfl)
  refine kj_pqa hx hb hts hK had hs hown hin2 (n0 := 212) (i := 2) (v := 213) (by rw [lnK]; decide) (by unfold ri_; omega) (tkk kK_211 (by decide)) fB_9_2 rfl ff_X6_19 dX6_init_24 (fun M1 e1 => ?_)
  subst e1
  have hf := jFr_up (c := 211) (i := 2) (v := ((213 : Nat) : Int)) hf (by decide)
  refine j_aload_n hO dX6_init_27 rfl 0 rfl ?_
  refine j_sipush hO dX6_init_28 (by decide) ?_
  refine kj_ai hx hb hts hK had hs hty.2.1 (n0 := 212) (i := 2) (N := 500) (n := 214) (i1 := 3) rfl rfl kK_214 rfl (by decide) om_1617 dX6_init_31 (Nat.le_of_ble_eq_true rfl) (jSl_m (by decide)) hf ?_
  have hf := jFr_w (n' := 215) hf (by decide)
  have hO := kj_ok (rm := ({ frames := 1, cells := 7, slots := jSl ftB ksK 219 - jSl ftB ksK 212, locals := 20 } : Room)) (ft := ftB) (Qs := Qs) (i := 3) (rk := 5) (post := fun _ _ => True) hc (by rw [lnK]; decide) (Nat.le_of_ble_eq_true rfl) (jSl_m (by decide)) (Or.inl rfl)
  refine kj_pqa hx hb hts hK had hs hown hin2 (n0 := 212) (i := 3) (v := 214) (by rw [lnK]; decide) (by unfold ri_; omega) (tkk kK_211 (by decide)) fB_9_3 rfl ff_X6_22 dX6_init_33 (fun M1 e1 => ?_)
  subst e1
  have hf := jFr_up (c := 211) (i := 3) (v := ((214 : Nat) : Int)) hf (by decide)
  refine j_aload_n hO dX6_init_36 rfl 0 rfl ?_
  refine j_sipush hO dX6_init_37 (by decide) ?_
  refine kj_al hx hb hts hK had hs hty.2.2.1 (n0 := 212) (i := 3) (N := 500) (n := 215) (i1 := 4) rfl rfl kK_215 rfl (by decide) om_1622 dX6_init_40 (Nat.le_of_ble_eq_true rfl) (jSl_m (by decide)) hf ?_
  have hf := jFr_w (n' := 216) hf (by decide)
  have hO := kj_ok (rm := ({ frames := 1, cells := 7, slots := jSl ftB ksK 219 - jSl ftB ksK 212, locals := 20 } : Room)) (ft := ftB) (Qs := Qs) (i := 4) (rk := 5) (post := fun _ _ => True) hc (by rw [lnK]; decide) (Nat.le_of_ble_eq_true rfl) (jSl_m (by decide)) (Or.inl rfl)
  refine kj_pqa hx hb hts hK had hs hown hin2 (n0 := 212) (i := 4) (v := 215) (by rw [lnK]; decide) (by unfold ri_; omega) (tkk kK_211 (by decide)) fB_9_4 rfl ff_X6_25 dX6_init_42 (fun M1 e1 => ?_)
  subst e1
  have hf := jFr_up (c := 211) (i := 4) (v := ((215 : Nat) : Int)) hf (by decide)
  refine j_aload_n hO dX6_init_45 rfl 0 rfl ?_
  refine j_bipush hO dX6_init_46 (by decide) ?_
  refine kj_al hx hb hts hK had hs hty.2.2.1 (n0 := 212) (i := 4) (N := 10) (n := 216) (i1 := 5) rfl rfl kK_216 rfl (by decide) om_1622 dX6_init_48 (Nat.le_of_ble_eq_true rfl) (jSl_m (by decide)) hf ?_
  have hf := jFr_w (n' := 217) hf (by decide)
  have hO := kj_ok (rm := ({ frames := 1, cells := 7, slots := jSl ftB ksK 219 - jSl ftB ksK 212, locals := 20 } : Room)) (ft := ftB) (Qs := Qs) (i := 5) (rk := 5) (post := fun _ _ => True) hc (by rw [lnK]; decide) (Nat.le_of_ble_eq_true rfl) (jSl_m (by decide)) (Or.inl rfl)
  refine kj_pqa hx hb hts hK had hs hown hin2 (n0 := 212) (i := 5) (v := 216) (by rw [lnK]; decide) (by unfold ri_; omega) (tkk kK_211 (by decide)) fB_9_14 rfl ff_X6_29 dX6_init_50 (fun M1 e1 => ?_)
  subst e1
  have hf := jFr_up (c := 211) (i := 14) (v := ((216 : Nat) : Int)) hf (by decide)
  refine j_aload_n hO dX6_init_53 rfl 0 rfl ?_
  refine j_bipush hO dX6_init_54 (by decide) ?_
  refine kj_ai hx hb hts hK had hs hty.2.1 (n0 := 212) (i := 5) (N := 10) (n := 217) (i1 := 6) rfl rfl kK_217 rfl (by decide) om_1617 dX6_init_56 (Nat.le_of_ble_eq_true rfl) (jSl_m (by decide)) hf ?_
  have hf := jFr_w (n' := 218) hf (by decide)
  have hO := kj_ok (rm := ({ frames := 1, cells := 7, slots := jSl ftB ksK 219 - jSl ftB ksK 212, locals := 20 } : Room)) (ft := ftB) (Qs := Qs) (i := 6) (rk := 5) (post := fun _ _ => True) hc (by rw [lnK]; decide) (Nat.le_of_ble_eq_true rfl) (jSl_m (by decide)) (Or.inl rfl)
  refine kj_pqa hx hb hts hK had hs hown hin2 (n0 := 212) (i := 6) (v := 217) (by rw [lnK]; decide) (by unfold ri_; omega) (tkk kK_211 (by decide)) fB_9_15 rfl ff_X6_32 dX6_init_58 (fun M1 e1 => ?_)
  subst e1
  have hf := jFr_up (c := 211) (i := 15) (v := ((217 : Nat) : Int)) hf (by decide)
  refine j_aload_n hO dX6_init_61 rfl 0 rfl ?_
  refine j_bipush hO dX6_init_62 (by decide) ?_
  refine kj_ai hx hb hts hK had hs hty.2.1 (n0 := 212) (i := 6) (N := 120) (n := 218) (i1 := 7) rfl rfl kK_218 rfl (by decide) om_1617 dX6_init_64 (Nat.le_of_ble_eq_true rfl) (jSl_m (by decide)) hf ?_
  have hf := jFr_w (n' := 219) hf (by decide)
  have hO := kj_ok (rm := ({ frames := 1, cells := 7, slots := jSl ftB ksK 219 - jSl ftB ksK 212, locals := 20 } : Room)) (ft := ftB) (Qs := Qs) (i := 7) (rk := 5) (post := fun _ _ => True) hc (by rw [lnK]; decide) (Nat.le_of_ble_eq_true rfl) (jSl_m (by decide)) (Or.inl rfl)
  refine kj_pqa hx hb hts hK had hs hown hin2 (n0 := 212) (i := 7) (v := 218) (by rw [lnK]; decide) (by unfold ri_; omega) (tkk kK_211 (by decide)) fB_9_17 rfl ff_X6_35 dX6_init_66 (fun M1 e1 => ?_)
  subst e1
  have hf := jFr_up (c := 211) (i := 17) (v := ((218 : Nat) : Int)) hf (by decide)
  exact hret _ _ _ dX6_init_69 hF
set_option maxHeartbeats 4000000 in
set_option maxRecDepth 100000 in
theorem c_X4_init_219 {l : Launch} {D : va_G} {cy : Nat → ClassId} {ad : Nat → Nat} {xs : Nat → Int} {L b0 : Nat} (had : ∀ k, k < ksK.length → ad k = b0 + k) : jKN l D vwCl (tyB cy) cy ad ftB ksK (XtB ad xs L) yX4_init (.code yX4_init cX4_init 2 none :: Om) ({ frames := 1, cells := 15, slots := jSl ftB ksK 235 - jSl ftB ksK 220, locals := 20 } : Room) b0 220 15 (W_X4_init_219 ad) := by
  refine jKN_of (y := yX4_init) (cc := cX4_init) (nL := 2) (rm := ({ frames := 1, cells := 15, slots := jSl ftB ksK 235 - jSl ftB ksK 220, locals := 20 } : Room)) (own := RX4) (tyB_ok cy) had (XtB_ok ad xs L) Om_good (by decide) rfl rfl ?_
  intro post av M hF
  obtain ⟨rfl, hf, hF⟩ := hF
  refine ⟨Nat.le_of_ble_eq_true rfl, fun p e s m below meth c Qs hc hin2 hret => ?_⟩
  obtain ⟨hx, hb, hml, hown, hts, hK, hty, -, hgo, hXc, hXt, hs⟩ := id hc
  have hO := kj_ok (rm := ({ frames := 1, cells := 15, slots := jSl ftB ksK 235 - jSl ftB ksK 220, locals := 20 } : Room)) (ft := ftB) (Qs := Qs) (i := 0) (rk := 5) (post := fun _ _ => True) hc (by rw [lnK]; decide) (Nat.le_of_ble_eq_true rfl) (jSl_m (by decide)) (Or.inl rfl)
  refine j_aload_n hO dX4_init_0 rfl 0 rfl ?_
  refine kj_obj hx hb hml hts hown ⟨om_1764, om_1612, om_1613⟩ dX4_init_1 (Nat.le_of_ble_eq_true rfl) (Nat.le_of_ble_eq_true rfl) (Nat.le_of_ble_eq_true rfl) ?_
  refine j_aload_n hO dX4_init_4 rfl 0 rfl ?_
  refine j_aload_n hO dX4_init_5 rfl 1 rfl ?_
  refine kj_pq hx hb hts hK had hs hown hin2 (n0 := 220) (i := 0) (v := 8) (by rw [lnK]; decide) (by unfold ri_; omega) (tkk kK_219 (by decide)) fB_7_0 rfl ff_X4_11 dX4_init_6 (fun M1 e1 => ?_)
  subst e1
  have hf := jFr_up (c := 219) (i := 0) (v := ((8 : Nat) : Int)) hf (by decide)
  refine j_aload_n hO dX4_init_9 rfl 0 rfl ?_
  refine j_bipush hO dX4_init_10 (by decide) ?_
  refine kj_ai hx hb hts hK had hs hty.2.1 (n0 := 220) (i := 0) (N := 121) (n := 220) (i1 := 1) rfl rfl kK_220 rfl (by decide) om_1617 dX4_init_12 (Nat.le_of_ble_eq_true rfl) (jSl_m (by decide)) hf ?_
  have hf := jFr_w (n' := 221) hf (by decide)
  have hO := kj_ok (rm := ({ frames := 1, cells := 15, slots := jSl ftB ksK 235 - jSl ftB ksK 220, locals := 20 } : Room)) (ft := ftB) (Qs := Qs) (i := 1) (rk := 5) (post := fun _ _ => True) hc (by rw [lnK]; decide) (Nat.le_of_ble_eq_true rfl) (jSl_m (by decide)) (Or.inl rfl)
  refine kj_pqa hx hb hts hK had hs hown hin2 (n0 := 220) (i := 1) (v := 220) (by rw [lnK]; decide) (by unfold ri_; omega) (tkk kK_219 (by decide)) fB_7_4 rfl ff_X4_19 dX4_init_14 (fun M1 e1 => ?_)
  subst e1
  have hf := jFr_up (c := 219) (i := 4) (v := ((220 : Nat) : Int)) hf (by decide)
  refine j_aload_n hO dX4_init_17 rfl 0 rfl ?_
  refine j_bipush hO dX4_init_18 (by decide) ?_
  refine kj_al hx hb hts hK had hs hty.2.2.1 (n0 := 220) (i := 1) (N := 121) (n := 221) (i1 := 2) rfl rfl kK_221 rfl (by decide) om_1622 dX4_init_20 (Nat.le_of_ble_eq_true rfl) (jSl_m (by decide)) hf ?_
  have hf := jFr_w (n' := 222) hf (by decide)
  have hO := kj_ok (rm := ({ frames := 1, cells := 15, slots := jSl ftB ksK 235 - jSl ftB ksK 220, locals := 20 } : Room)) (ft := ftB) (Qs := Qs) (i := 2) (rk := 5) (post := fun _ _ => True) hc (by rw [lnK]; decide) (Nat.le_of_ble_eq_true rfl) (jSl_m (by decide)) (Or.inl rfl)
  refine kj_pqa hx hb hts hK had hs hown hin2 (n0 := 220) (i := 2) (v := 221) (by rw [lnK]; decide) (by unfold ri_; omega) (tkk kK_219 (by decide)) fB_7_5 rfl ff_X4_23 dX4_init_22 (fun M1 e1 => ?_)
  subst e1
  have hf := jFr_up (c := 219) (i := 5) (v := ((221 : Nat) : Int)) hf (by decide)
  refine j_aload_n hO dX4_init_25 rfl 0 rfl ?_
  refine j_bipush hO dX4_init_26 (by decide) ?_
  refine kj_ai hx hb hts hK had hs hty.2.1 (n0 := 220) (i := 2) (N := 11) (n := 222) (i1 := 3) rfl rfl kK_222 rfl (by decide) om_1617 dX4_init_28 (Nat.le_of_ble_eq_true rfl) (jSl_m (by decide)) hf ?_
  have hf := jFr_w (n' := 223) hf (by decide)
  have hO := kj_ok (rm := ({ frames := 1, cells := 15, slots := jSl ftB ksK 235 - jSl ftB ksK 220, locals := 20 } : Room)) (ft := ftB) (Qs := Qs) (i := 3) (rk := 5) (post := fun _ _ => True) hc (by rw [lnK]; decide) (Nat.le_of_ble_eq_true rfl) (jSl_m (by decide)) (Or.inl rfl)
  refine kj_pqa hx hb hts hK had hs hown hin2 (n0 := 220) (i := 3) (v := 222) (by rw [lnK]; decide) (by unfold ri_; omega) (tkk kK_219 (by decide)) fB_7_7 rfl ff_X4_27 dX4_init_30 (fun M1 e1 => ?_)
  subst e1
  have hf := jFr_up (c := 219) (i := 7) (v := ((222 : Nat) : Int)) hf (by decide)
  refine j_aload_n hO dX4_init_33 rfl 0 rfl ?_
  refine j_bipush hO dX4_init_34 (by decide) ?_
  refine kj_ai hx hb hts hK had hs hty.2.1 (n0 := 220) (i := 3) (N := 11) (n := 223) (i1 := 4) rfl rfl kK_223 rfl (by decide) om_1617 dX4_init_36 (Nat.le_of_ble_eq_true rfl) (jSl_m (by decide)) hf ?_
  have hf := jFr_w (n' := 224) hf (by decide)
  have hO := kj_ok (rm := ({ frames := 1, cells := 15, slots := jSl ftB ksK 235 - jSl ftB ksK 220, locals := 20 } : Room)) (ft := ftB) (Qs := Qs) (i := 4) (rk := 5) (post := fun _ _ => True) hc (by rw [lnK]; decide) (Nat.le_of_ble_eq_true rfl) (jSl_m (by decide)) (Or.inl rfl)
  refine kj_pqa hx hb hts hK had hs hown hin2 (n0 := 220) (i := 4) (v := 223) (by rw [lnK]; decide) (by unfold ri_; omega) (tkk kK_219 (by decide)) fB_7_8 rfl ff_X4_30 dX4_init_38 (fun M1 e1 => ?_)
  subst e1
  have hf := jFr_up (c := 219) (i := 8) (v := ((223 : Nat) : Int)) hf (by decide)
  refine j_aload_n hO dX4_init_41 rfl 0 rfl ?_
  refine j_bipush hO dX4_init_42 (by decide) ?_
  refine kj_ai hx hb hts hK had hs hty.2.1 (n0 := 220) (i := 4) (N := 11) (n := 224) (i1 := 5) rfl rfl kK_224 rfl (by decide) om_1617 dX4_init_44 (Nat.le_of_ble_eq_true rfl) (jSl_m (by decide)) hf ?_
  have hf := jFr_w (n' := 225) hf (by decide)
  have hO := kj_ok (rm := ({ frames := 1, cells := 15, slots := jSl ftB ksK 235 - jSl ftB ksK 220, locals := 20 } : Room)) (ft := ftB) (Qs := Qs) (i := 5) (rk := 5) (post := fun _ _ => True) hc (by rw [lnK]; decide) (Nat.le_of_ble_eq_true rfl) (jSl_m (by decide)) (Or.inl rfl)
  refine kj_pqa hx hb hts hK had hs hown hin2 (n0 := 220) (i := 5) (v := 224) (by rw [lnK]; decide) (by unfold ri_; omega) (tkk kK_219 (by decide)) fB_7_9 rfl ff_X4_33 dX4_init_46 (fun M1 e1 => ?_)
  subst e1
  have hf := jFr_up (c := 219) (i := 9) (v := ((224 : Nat) : Int)) hf (by decide)
  refine j_aload_n hO dX4_init_49 rfl 0 rfl ?_
  refine j_bipush hO dX4_init_50 (by decide) ?_
  refine kj_ai hx hb hts hK had hs hty.2.1 (n0 := 220) (i := 5) (N := 11) (n := 225) (i1 := 6) rfl rfl kK_225 rfl (by decide) om_1617 dX4_init_52 (Nat.le_of_ble_eq_true rfl) (jSl_m (by decide)) hf ?_
  have hf := jFr_w (n' := 226) hf (by decide)
  have hO := kj_ok (rm := ({ frames := 1, cells := 15, slots := jSl ftB ksK 235 - jSl ftB ksK 220, locals := 20 } : Room)) (ft := ftB) (Qs := Qs) (i := 6) (rk := 5) (post := fun _ _ => True) hc (by rw [lnK]; decide) (Nat.le_of_ble_eq_true rfl) (jSl_m (by decide)) (Or.inl rfl)
  refine kj_pqa hx hb hts hK had hs hown hin2 (n0 := 220) (i := 6) (v := 225) (by rw [lnK]; decide) (by unfold ri_; omega) (tkk kK_219 (by decide)) fB_7_10 rfl ff_X4_36 dX4_init_54 (fun M1 e1 => ?_)
  subst e1
  have hf := jFr_up (c := 219) (i := 10) (v := ((225 : Nat) : Int)) hf (by decide)
  refine j_aload_n hO dX4_init_57 rfl 0 rfl ?_
  refine j_bipush hO dX4_init_58 (by decide) ?_
  refine kj_ai hx hb hts hK had hs hty.2.1 (n0 := 220) (i := 6) (N := 11) (n := 226) (i1 := 7) rfl rfl kK_226 rfl (by decide) om_1617 dX4_init_60 (Nat.le_of_ble_eq_true rfl) (jSl_m (by decide)) hf ?_
  have hf := jFr_w (n' := 227) hf (by decide)
  have hO := kj_ok (rm := ({ frames := 1, cells := 15, slots := jSl ftB ksK 235 - jSl ftB ksK 220, locals := 20 } : Room)) (ft := ftB) (Qs := Qs) (i := 7) (rk := 5) (post := fun _ _ => True) hc (by rw [lnK]; decide) (Nat.le_of_ble_eq_true rfl) (jSl_m (by decide)) (Or.inl rfl)
  refine kj_pqa hx hb hts hK had hs hown hin2 (n0 := 220) (i := 7) (v := 226) (by rw [lnK]; decide) (by unfold ri_; omega) (tkk kK_219 (by decide)) fB_7_11 rfl ff_X4_39 dX4_init_62 (fun M1 e1 => ?_)
  subst e1
  have hf := jFr_up (c := 219) (i := 11) (v := ((226 : Nat) : Int)) hf (by decide)
  refine j_aload_n hO dX4_init_65 rfl 0 rfl ?_
  refine j_bipush hO dX4_init_66 (by decide) ?_
  refine kj_al hx hb hts hK had hs hty.2.2.1 (n0 := 220) (i := 7) (N := 11) (n := 227) (i1 := 8) rfl rfl kK_227 rfl (by decide) om_1622 dX4_init_68 (Nat.le_of_ble_eq_true rfl) (jSl_m (by decide)) hf ?_
  have hf := jFr_w (n' := 228) hf (by decide)
  have hO := kj_ok (rm := ({ frames := 1, cells := 15, slots := jSl ftB ksK 235 - jSl ftB ksK 220, locals := 20 } : Room)) (ft := ftB) (Qs := Qs) (i := 8) (rk := 5) (post := fun _ _ => True) hc (by rw [lnK]; decide) (Nat.le_of_ble_eq_true rfl) (jSl_m (by decide)) (Or.inl rfl)
  refine kj_pqa hx hb hts hK had hs hown hin2 (n0 := 220) (i := 8) (v := 227) (by rw [lnK]; decide) (by unfold ri_; omega) (tkk kK_219 (by decide)) fB_7_12 rfl ff_X4_42 dX4_init_70 (fun M1 e1 => ?_)
  subst e1
  have hf := jFr_up (c := 219) (i := 12) (v := ((227 : Nat) : Int)) hf (by decide)
  refine j_aload_n hO dX4_init_73 rfl 0 rfl ?_
  refine j_bipush hO dX4_init_74 (by decide) ?_
  refine kj_az hx hb hts hK had hs hty.2.2.2 (n0 := 220) (i := 8) (N := 11) (n := 228) (i1 := 9) rfl rfl kK_228 rfl (by decide) om_1646 dX4_init_76 (Nat.le_of_ble_eq_true rfl) (jSl_m (by decide)) hf ?_
  have hf := jFr_w (n' := 229) hf (by decide)
  have hO := kj_ok (rm := ({ frames := 1, cells := 15, slots := jSl ftB ksK 235 - jSl ftB ksK 220, locals := 20 } : Room)) (ft := ftB) (Qs := Qs) (i := 9) (rk := 5) (post := fun _ _ => True) hc (by rw [lnK]; decide) (Nat.le_of_ble_eq_true rfl) (jSl_m (by decide)) (Or.inl rfl)
  refine kj_pqa hx hb hts hK had hs hown hin2 (n0 := 220) (i := 9) (v := 228) (by rw [lnK]; decide) (by unfold ri_; omega) (tkk kK_219 (by decide)) fB_7_13 rfl ff_X4_45 dX4_init_78 (fun M1 e1 => ?_)
  subst e1
  have hf := jFr_up (c := 219) (i := 13) (v := ((228 : Nat) : Int)) hf (by decide)
  refine j_aload_n hO dX4_init_81 rfl 0 rfl ?_
  refine j_sipush hO dX4_init_82 (by decide) ?_
  refine kj_ai hx hb hts hK had hs hty.2.1 (n0 := 220) (i := 9) (N := 4400) (n := 229) (i1 := 10) rfl rfl kK_229 rfl (by decide) om_1617 dX4_init_85 (Nat.le_of_ble_eq_true rfl) (jSl_m (by decide)) hf ?_
  have hf := jFr_w (n' := 230) hf (by decide)
  have hO := kj_ok (rm := ({ frames := 1, cells := 15, slots := jSl ftB ksK 235 - jSl ftB ksK 220, locals := 20 } : Room)) (ft := ftB) (Qs := Qs) (i := 10) (rk := 5) (post := fun _ _ => True) hc (by rw [lnK]; decide) (Nat.le_of_ble_eq_true rfl) (jSl_m (by decide)) (Or.inl rfl)
  refine kj_pqa hx hb hts hK had hs hown hin2 (n0 := 220) (i := 10) (v := 229) (by rw [lnK]; decide) (by unfold ri_; omega) (tkk kK_219 (by decide)) fB_7_14 rfl ff_X4_49 dX4_init_87 (fun M1 e1 => ?_)
  subst e1
  have hf := jFr_up (c := 219) (i := 14) (v := ((229 : Nat) : Int)) hf (by decide)
  refine j_aload_n hO dX4_init_90 rfl 0 rfl ?_
  refine j_sipush hO dX4_init_91 (by decide) ?_
  refine kj_ai hx hb hts hK had hs hty.2.1 (n0 := 220) (i := 10) (N := 4400) (n := 230) (i1 := 11) rfl rfl kK_230 rfl (by decide) om_1617 dX4_init_94 (Nat.le_of_ble_eq_true rfl) (jSl_m (by decide)) hf ?_
  have hf := jFr_w (n' := 231) hf (by decide)
  have hO := kj_ok (rm := ({ frames := 1, cells := 15, slots := jSl ftB ksK 235 - jSl ftB ksK 220, locals := 20 } : Room)) (ft := ftB) (Qs := Qs) (i := 11) (rk := 5) (post := fun _ _ => True) hc (by rw [lnK]; decide) (Nat.le_of_ble_eq_true rfl) (jSl_m (by decide)) (Or.inl rfl)
  refine kj_pqa hx hb hts hK had hs hown hin2 (n0 := 220) (i := 11) (v := 230) (by rw [lnK]; decide) (by unfold ri_; omega) (tkk kK_219 (by decide)) fB_7_15 rfl ff_X4_52 dX4_init_96 (fun M1 e1 => ?_)
  subst e1
  have hf := jFr_up (c := 219) (i := 15) (v := ((230 : Nat) : Int)) hf (by decide)
  refine j_aload_n hO dX4_init_99 rfl 0 rfl ?_
  refine j_bipush hO dX4_init_100 (by decide) ?_
  refine kj_ai hx hb hts hK had hs hty.2.1 (n0 := 220) (i := 11) (N := 11) (n := 231) (i1 := 12) rfl rfl kK_231 rfl (by decide) om_1617 dX4_init_102 (Nat.le_of_ble_eq_true rfl) (jSl_m (by decide)) hf ?_
  have hf := jFr_w (n' := 232) hf (by decide)
  have hO := kj_ok (rm := ({ frames := 1, cells := 15, slots := jSl ftB ksK 235 - jSl ftB ksK 220, locals := 20 } : Room)) (ft := ftB) (Qs := Qs) (i := 12) (rk := 5) (post := fun _ _ => True) hc (by rw [lnK]; decide) (Nat.le_of_ble_eq_true rfl) (jSl_m (by decide)) (Or.inl rfl)
  refine kj_pqa hx hb hts hK had hs hown hin2 (n0 := 220) (i := 12) (v := 231) (by rw [lnK]; decide) (by unfold ri_; omega) (tkk kK_219 (by decide)) fB_7_16 rfl ff_X4_55 dX4_init_104 (fun M1 e1 => ?_)
  subst e1
  have hf := jFr_up (c := 219) (i := 16) (v := ((231 : Nat) : Int)) hf (by decide)
  refine j_aload_n hO dX4_init_107 rfl 0 rfl ?_
  refine j_sipush hO dX4_init_108 (by decide) ?_
  refine kj_ai hx hb hts hK had hs hty.2.1 (n0 := 220) (i := 12) (N := 4000) (n := 232) (i1 := 13) rfl rfl kK_232 rfl (by decide) om_1617 dX4_init_111 (Nat.le_of_ble_eq_true rfl) (jSl_m (by decide)) hf ?_
  have hf := jFr_w (n' := 233) hf (by decide)
  have hO := kj_ok (rm := ({ frames := 1, cells := 15, slots := jSl ftB ksK 235 - jSl ftB ksK 220, locals := 20 } : Room)) (ft := ftB) (Qs := Qs) (i := 13) (rk := 5) (post := fun _ _ => True) hc (by rw [lnK]; decide) (Nat.le_of_ble_eq_true rfl) (jSl_m (by decide)) (Or.inl rfl)
  refine kj_pqa hx hb hts hK had hs hown hin2 (n0 := 220) (i := 13) (v := 232) (by rw [lnK]; decide) (by unfold ri_; omega) (tkk kK_219 (by decide)) fB_7_17 rfl ff_X4_58 dX4_init_113 (fun M1 e1 => ?_)
  subst e1
  have hf := jFr_up (c := 219) (i := 17) (v := ((232 : Nat) : Int)) hf (by decide)
  refine j_aload_n hO dX4_init_116 rfl 0 rfl ?_
  refine j_sipush hO dX4_init_117 (by decide) ?_
  refine kj_ai hx hb hts hK had hs hty.2.1 (n0 := 220) (i := 13) (N := 4000) (n := 233) (i1 := 14) rfl rfl kK_233 rfl (by decide) om_1617 dX4_init_120 (Nat.le_of_ble_eq_true rfl) (jSl_m (by decide)) hf ?_
  have hf := jFr_w (n' := 234) hf (by decide)
  have hO := kj_ok (rm := ({ frames := 1, cells := 15, slots := jSl ftB ksK 235 - jSl ftB ksK 220, locals := 20 } : Room)) (ft := ftB) (Qs := Qs) (i := 14) (rk := 5) (post := fun _ _ => True) hc (by rw [lnK]; decide) (Nat.le_of_ble_eq_true rfl) (jSl_m (by decide)) (Or.inl rfl)
  refine kj_pqa hx hb hts hK had hs hown hin2 (n0 := 220) (i := 14) (v := 233) (by rw [lnK]; decide) (by unfold ri_; omega) (tkk kK_219 (by decide)) fB_7_18 rfl ff_X4_61 dX4_init_122 (fun M1 e1 => ?_)
  subst e1
  have hf := jFr_up (c := 219) (i := 18) (v := ((233 : Nat) : Int)) hf (by decide)
  refine j_aload_n hO dX4_init_125 rfl 0 rfl ?_
  refine j_sipush hO dX4_init_126 (by decide) ?_
  refine kj_al hx hb hts hK had hs hty.2.2.1 (n0 := 220) (i := 14) (N := 4000) (n := 234) (i1 := 15) rfl rfl kK_234 rfl (by decide) om_1622 dX4_init_129 (Nat.le_of_ble_eq_true rfl) (jSl_m (by decide)) hf ?_
  have hf := jFr_w (n' := 235) hf (by decide)
  have hO := kj_ok (rm := ({ frames := 1, cells := 15, slots := jSl ftB ksK 235 - jSl ftB ksK 220, locals := 20 } : Room)) (ft := ftB) (Qs := Qs) (i := 15) (rk := 5) (post := fun _ _ => True) hc (by rw [lnK]; decide) (Nat.le_of_ble_eq_true rfl) (jSl_m (by decide)) (Or.inl rfl)
  refine kj_pqa hx hb hts hK had hs hown hin2 (n0 := 220) (i := 15) (v := 234) (by rw [lnK]; decide) (by unfold ri_; omega) (tkk kK_219 (by decide)) fB_7_19 rfl ff_X4_64 dX4_init_131 (fun M1 e1 => ?_)
  subst e1
  have hf := jFr_up (c := 219) (i := 19) (v := ((234 : Nat) : Int)) hf (by decide)
  exact hret _ _ _ dX4_init_134 hF
set_option maxHeartbeats 4000000 in
set_option maxRecDepth 100000 in
theorem c_X6_init_236 {l : Launch} {D : va_G} {cy : Nat → ClassId} {ad : Nat → Nat} {xs : Nat → Int} {L b0 : Nat} (had : ∀ k, k < ksK.length → ad k = b0 + k) : jKN l D vwCl (tyB cy) cy ad ftB ksK (XtB ad xs L) yX6_init (.code yX6_init cX6_init 2 none :: Om) ({ frames := 1, cells := 7, slots := jSl ftB ksK 244 - jSl ftB ksK 237, locals := 20 } : Room) b0 237 7 (W_X6_init_236 ad) := by
  refine jKN_of (y := yX6_init) (cc := cX6_init) (nL := 2) (rm := ({ frames := 1, cells := 7, slots := jSl ftB ksK 244 - jSl ftB ksK 237, locals := 20 } : Room)) (own := RX6) (tyB_ok cy) had (XtB_ok ad xs L) Om_good (by decide) rfl rfl ?_
  intro post av M hF
  obtain ⟨rfl, hf, hF⟩ := hF
  refine ⟨Nat.le_of_ble_eq_true rfl, fun p e s m below meth c Qs hc hin2 hret => ?_⟩
  obtain ⟨hx, hb, hml, hown, hts, hK, hty, -, hgo, hXc, hXt, hs⟩ := id hc
  have hO := kj_ok (rm := ({ frames := 1, cells := 7, slots := jSl ftB ksK 244 - jSl ftB ksK 237, locals := 20 } : Room)) (ft := ftB) (Qs := Qs) (i := 0) (rk := 5) (post := fun _ _ => True) hc (by rw [lnK]; decide) (Nat.le_of_ble_eq_true rfl) (jSl_m (by decide)) (Or.inl rfl)
  refine j_aload_n hO dX6_init_0 rfl 0 rfl ?_
  refine kj_obj hx hb hml hts hown ⟨om_1749, om_1612, om_1613⟩ dX6_init_1 (Nat.le_of_ble_eq_true rfl) (Nat.le_of_ble_eq_true rfl) (Nat.le_of_ble_eq_true rfl) ?_
  refine j_aload_n hO dX6_init_4 rfl 0 rfl ?_
  refine j_aload_n hO dX6_init_5 rfl 1 rfl ?_
  refine kj_pq hx hb hts hK had hs hown hin2 (n0 := 237) (i := 0) (v := 1) (by rw [lnK]; decide) (by unfold ri_; omega) (tkk kK_236 (by decide)) fB_9_0 rfl ff_X6_9 dX6_init_6 (fun M1 e1 => ?_)
  subst e1
  have hf := jFr_up (c := 236) (i := 0) (v := ((1 : Nat) : Int)) hf (by decide)
  refine j_aload_n hO dX6_init_9 rfl 0 rfl ?_
  refine j_sipush hO dX6_init_10 (by decide) ?_
  refine kj_ai hx hb hts hK had hs hty.2.1 (n0 := 237) (i := 0) (N := 500) (n := 237) (i1 := 1) rfl rfl kK_237 rfl (by decide) om_1617 dX6_init_13 (Nat.le_of_ble_eq_true rfl) (jSl_m (by decide)) hf ?_
  have hf := jFr_w (n' := 238) hf (by decide)
  have hO := kj_ok (rm := ({ frames := 1, cells := 7, slots := jSl ftB ksK 244 - jSl ftB ksK 237, locals := 20 } : Room)) (ft := ftB) (Qs := Qs) (i := 1) (rk := 5) (post := fun _ _ => True) hc (by rw [lnK]; decide) (Nat.le_of_ble_eq_true rfl) (jSl_m (by decide)) (Or.inl rfl)
  refine kj_pqa hx hb hts hK had hs hown hin2 (n0 := 237) (i := 1) (v := 237) (by rw [lnK]; decide) (by unfold ri_; omega) (tkk kK_236 (by decide)) fB_9_1 rfl ff_X6_15 dX6_init_15 (fun M1 e1 => ?_)
  subst e1
  have hf := jFr_up (c := 236) (i := 1) (v := ((237 : Nat) : Int)) hf (by decide)
  refine j_aload_n hO dX6_init_18 rfl 0 rfl ?_
  refine j_sipush hO dX6_init_19 (by decide) ?_
  refine kj_ai hx hb hts hK had hs hty.2.1 (n0 := 237) (i := 1) (N := 500) (n := 238) (i1 := 2) rfl rfl kK_238 rfl (by decide) om_1617 dX6_init_22 (Nat.le_of_ble_eq_true rfl) (jSl_m (by decide)) hf ?_
  have hf := jFr_w (n' := 239) hf (by decide)
  have hO := kj_ok (rm := ({ frames := 1, cells := 7, slots := jSl ftB ksK 244 - jSl ftB ksK 237, locals := 20 } : Room)) (ft := ftB) (Qs := Qs) (i := 2) (rk := 5) (post := fun _ _ => True) hc (by rw [lnK]; decide) (Nat.le_of_ble_eq_true rfl) (jSl_m (by decide)) (Or.inl rfl)
  refine kj_pqa hx hb hts hK had hs hown hin2 (n0 := 237) (i := 2) (v := 238) (by rw [lnK]; decide) (by unfold ri_; omega) (tkk kK_236 (by decide)) fB_9_2 rfl ff_X6_19 dX6_init_24 (fun M1 e1 => ?_)
  subst e1
  have hf := jFr_up (c := 236) (i := 2) (v := ((238 : Nat) : Int)) hf (by decide)
  refine j_aload_n hO dX6_init_27 rfl 0 rfl ?_
  refine j_sipush hO dX6_init_28 (by decide) ?_
  refine kj_ai hx hb hts hK had hs hty.2.1 (n0 := 237) (i := 2) (N := 500) (n := 239) (i1 := 3) rfl rfl kK_239 rfl (by decide) om_1617 dX6_init_31 (Nat.le_of_ble_eq_true rfl) (jSl_m (by decide)) hf ?_
  have hf := jFr_w (n' := 240) hf (by decide)
  have hO := kj_ok (rm := ({ frames := 1, cells := 7, slots := jSl ftB ksK 244 - jSl ftB ksK 237, locals := 20 } : Room)) (ft := ftB) (Qs := Qs) (i := 3) (rk := 5) (post := fun _ _ => True) hc (by rw [lnK]; decide) (Nat.le_of_ble_eq_true rfl) (jSl_m (by decide)) (Or.inl rfl)
  refine kj_pqa hx hb hts hK had hs hown hin2 (n0 := 237) (i := 3) (v := 239) (by rw [lnK]; decide) (by unfold ri_; omega) (tkk kK_236 (by decide)) fB_9_3 rfl ff_X6_22 dX6_init_33 (fun M1 e1 => ?_)
  subst e1
  have hf := jFr_up (c := 236) (i := 3) (v := ((239 : Nat) : Int)) hf (by decide)
  refine j_aload_n hO dX6_init_36 rfl 0 rfl ?_
  refine j_sipush hO dX6_init_37 (by decide) ?_
  refine kj_al hx hb hts hK had hs hty.2.2.1 (n0 := 237) (i := 3) (N := 500) (n := 240) (i1 := 4) rfl rfl kK_240 rfl (by decide) om_1622 dX6_init_40 (Nat.le_of_ble_eq_true rfl) (jSl_m (by decide)) hf ?_
  have hf := jFr_w (n' := 241) hf (by decide)
  have hO := kj_ok (rm := ({ frames := 1, cells := 7, slots := jSl ftB ksK 244 - jSl ftB ksK 237, locals := 20 } : Room)) (ft := ftB) (Qs := Qs) (i := 4) (rk := 5) (post := fun _ _ => True) hc (by rw [lnK]; decide) (Nat.le_of_ble_eq_true rfl) (jSl_m (by decide)) (Or.inl rfl)
  refine kj_pqa hx hb hts hK had hs hown hin2 (n0 := 237) (i := 4) (v := 240) (by rw [lnK]; decide) (by unfold ri_; omega) (tkk kK_236 (by decide)) fB_9_4 rfl ff_X6_25 dX6_init_42 (fun M1 e1 => ?_)
  subst e1
  have hf := jFr_up (c := 236) (i := 4) (v := ((240 : Nat) : Int)) hf (by decide)
  refine j_aload_n hO dX6_init_45 rfl 0 rfl ?_
  refine j_bipush hO dX6_init_46 (by decide) ?_
  refine kj_al hx hb hts hK had hs hty.2.2.1 (n0 := 237) (i := 4) (N := 10) (n := 241) (i1 := 5) rfl rfl kK_241 rfl (by decide) om_1622 dX6_init_48 (Nat.le_of_ble_eq_true rfl) (jSl_m (by decide)) hf ?_
  have hf := jFr_w (n' := 242) hf (by decide)
  have hO := kj_ok (rm := ({ frames := 1, cells := 7, slots := jSl ftB ksK 244 - jSl ftB ksK 237, locals := 20 } : Room)) (ft := ftB) (Qs := Qs) (i := 5) (rk := 5) (post := fun _ _ => True) hc (by rw [lnK]; decide) (Nat.le_of_ble_eq_true rfl) (jSl_m (by decide)) (Or.inl rfl)
  refine kj_pqa hx hb hts hK had hs hown hin2 (n0 := 237) (i := 5) (v := 241) (by rw [lnK]; decide) (by unfold ri_; omega) (tkk kK_236 (by decide)) fB_9_14 rfl ff_X6_29 dX6_init_50 (fun M1 e1 => ?_)
  subst e1
  have hf := jFr_up (c := 236) (i := 14) (v := ((241 : Nat) : Int)) hf (by decide)
  refine j_aload_n hO dX6_init_53 rfl 0 rfl ?_
  refine j_bipush hO dX6_init_54 (by decide) ?_
  refine kj_ai hx hb hts hK had hs hty.2.1 (n0 := 237) (i := 5) (N := 10) (n := 242) (i1 := 6) rfl rfl kK_242 rfl (by decide) om_1617 dX6_init_56 (Nat.le_of_ble_eq_true rfl) (jSl_m (by decide)) hf ?_
  have hf := jFr_w (n' := 243) hf (by decide)
  have hO := kj_ok (rm := ({ frames := 1, cells := 7, slots := jSl ftB ksK 244 - jSl ftB ksK 237, locals := 20 } : Room)) (ft := ftB) (Qs := Qs) (i := 6) (rk := 5) (post := fun _ _ => True) hc (by rw [lnK]; decide) (Nat.le_of_ble_eq_true rfl) (jSl_m (by decide)) (Or.inl rfl)
  refine kj_pqa hx hb hts hK had hs hown hin2 (n0 := 237) (i := 6) (v := 242) (by rw [lnK]; decide) (by unfold ri_; omega) (tkk kK_236 (by decide)) fB_9_15 rfl ff_X6_32 dX6_init_58 (fun M1 e1 => ?_)
  subst e1
  have hf := jFr_up (c := 236) (i := 15) (v := ((242 : Nat) : Int)) hf (by decide)
  refine j_aload_n hO dX6_init_61 rfl 0 rfl ?_
  refine j_bipush hO dX6_init_62 (by decide) ?_
  refine kj_ai hx hb hts hK had hs hty.2.1 (n0 := 237) (i := 6) (N := 120) (n := 243) (i1 := 7) rfl rfl kK_243 rfl (by decide) om_1617 dX6_init_64 (Nat.le_of_ble_eq_true rfl) (jSl_m (by decide)) hf ?_
  have hf := jFr_w (n' := 244) hf (by decide)
  have hO := kj_ok (rm := ({ frames := 1, cells := 7, slots := jSl ftB ksK 244 - jSl ftB ksK 237, locals := 20 } : Room)) (ft := ftB) (Qs := Qs) (i := 7) (rk := 5) (post := fun _ _ => True) hc (by rw [lnK]; decide) (Nat.le_of_ble_eq_true rfl) (jSl_m (by decide)) (Or.inl rfl)
  refine kj_pqa hx hb hts hK had hs hown hin2 (n0 := 237) (i := 7) (v := 243) (by rw [lnK]; decide) (by unfold ri_; omega) (tkk kK_236 (by decide)) fB_9_17 rfl ff_X6_35 dX6_init_66 (fun M1 e1 => ?_)
  subst e1
  have hf := jFr_up (c := 236) (i := 17) (v := ((243 : Nat) : Int)) hf (by decide)
  exact hret _ _ _ dX6_init_69 hF
set_option maxHeartbeats 4000000 in
set_option maxRecDepth 100000 in
theorem c_X6_init_244 {l : Launch} {D : va_G} {cy : Nat → ClassId} {ad : Nat → Nat} {xs : Nat → Int} {L b0 : Nat} (had : ∀ k, k < ksK.length → ad k = b0 + k) : jKN l D vwCl (tyB cy) cy ad ftB ksK (XtB ad xs L) yX6_init (.code yX6_init cX6_init 2 none :: Om) ({ frames := 1, cells := 7, slots := jSl ftB ksK 252 - jSl ftB ksK 245, locals := 20 } : Room) b0 245 7 (W_X6_init_244 ad) := by
  refine jKN_of (y := yX6_init) (cc := cX6_init) (nL := 2) (rm := ({ frames := 1, cells := 7, slots := jSl ftB ksK 252 - jSl ftB ksK 245, locals := 20 } : Room)) (own := RX6) (tyB_ok cy) had (XtB_ok ad xs L) Om_good (by decide) rfl rfl ?_
  intro post av M hF
  obtain ⟨rfl, hf, hF⟩ := hF
  refine ⟨Nat.le_of_ble_eq_true rfl, fun p e s m below meth c Qs hc hin2 hret => ?_⟩
  obtain ⟨hx, hb, hml, hown, hts, hK, hty, -, hgo, hXc, hXt, hs⟩ := id hc
  have hO := kj_ok (rm := ({ frames := 1, cells := 7, slots := jSl ftB ksK 252 - jSl ftB ksK 245, locals := 20 } : Room)) (ft := ftB) (Qs := Qs) (i := 0) (rk := 5) (post := fun _ _ => True) hc (by rw [lnK]; decide) (Nat.le_of_ble_eq_true rfl) (jSl_m (by decide)) (Or.inl rfl)
  refine j_aload_n hO dX6_init_0 rfl 0 rfl ?_
  refine kj_obj hx hb hml hts hown ⟨om_1749, om_1612, om_1613⟩ dX6_init_1 (Nat.le_of_ble_eq_true rfl) (Nat.le_of_ble_eq_true rfl) (Nat.le_of_ble_eq_true rfl) ?_
  refine j_aload_n hO dX6_init_4 rfl 0 rfl ?_
  refine j_aload_n hO dX6_init_5 rfl 1 rfl ?_
  refine kj_pq hx hb hts hK had hs hown hin2 (n0 := 245) (i := 0) (v := 1) (by rw [lnK]; decide) (by unfold ri_; omega) (tkk kK_244 (by decide)) fB_9_0 rfl ff_X6_9 dX6_init_6 (fun M1 e1 => ?_)
  subst e1
  have hf := jFr_up (c := 244) (i := 0) (v := ((1 : Nat) : Int)) hf (by decide)
  refine j_aload_n hO dX6_init_9 rfl 0 rfl ?_
  refine j_sipush hO dX6_init_10 (by decide) ?_
  refine kj_ai hx hb hts hK had hs hty.2.1 (n0 := 245) (i := 0) (N := 500) (n := 245) (i1 := 1) rfl rfl kK_245 rfl (by decide) om_1617 dX6_init_13 (Nat.le_of_ble_eq_true rfl) (jSl_m (by decide)) hf ?_
  have hf := jFr_w (n' := 246) hf (by decide)
  have hO := kj_ok (rm := ({ frames := 1, cells := 7, slots := jSl ftB ksK 252 - jSl ftB ksK 245, locals := 20 } : Room)) (ft := ftB) (Qs := Qs) (i := 1) (rk := 5) (post := fun _ _ => True) hc (by rw [lnK]; decide) (Nat.le_of_ble_eq_true rfl) (jSl_m (by decide)) (Or.inl rfl)
  refine kj_pqa hx hb hts hK had hs hown hin2 (n0 := 245) (i := 1) (v := 245) (by rw [lnK]; decide) (by unfold ri_; omega) (tkk kK_244 (by decide)) fB_9_1 rfl ff_X6_15 dX6_init_15 (fun M1 e1 => ?_)
  subst e1
  have hf := jFr_up (c := 244) (i := 1) (v := ((245 : Nat) : Int)) hf (by decide)
  refine j_aload_n hO dX6_init_18 rfl 0 rfl ?_
  refine j_sipush hO dX6_init_19 (by decide) ?_
  refine kj_ai hx hb hts hK had hs hty.2.1 (n0 := 245) (i := 1) (N := 500) (n := 246) (i1 := 2) rfl rfl kK_246 rfl (by decide) om_1617 dX6_init_22 (Nat.le_of_ble_eq_true rfl) (jSl_m (by decide)) hf ?_
  have hf := jFr_w (n' := 247) hf (by decide)
  have hO := kj_ok (rm := ({ frames := 1, cells := 7, slots := jSl ftB ksK 252 - jSl ftB ksK 245, locals := 20 } : Room)) (ft := ftB) (Qs := Qs) (i := 2) (rk := 5) (post := fun _ _ => True) hc (by rw [lnK]; decide) (Nat.le_of_ble_eq_true rfl) (jSl_m (by decide)) (Or.inl rfl)
  refine kj_pqa hx hb hts hK had hs hown hin2 (n0 := 245) (i := 2) (v := 246) (by rw [lnK]; decide) (by unfold ri_; omega) (tkk kK_244 (by decide)) fB_9_2 rfl ff_X6_19 dX6_init_24 (fun M1 e1 => ?_)
  subst e1
  have hf := jFr_up (c := 244) (i := 2) (v := ((246 : Nat) : Int)) hf (by decide)
  refine j_aload_n hO dX6_init_27 rfl 0 rfl ?_
  refine j_sipush hO dX6_init_28 (by decide) ?_
  refine kj_ai hx hb hts hK had hs hty.2.1 (n0 := 245) (i := 2) (N := 500) (n := 247) (i1 := 3) rfl rfl kK_247 rfl (by decide) om_1617 dX6_init_31 (Nat.le_of_ble_eq_true rfl) (jSl_m (by decide)) hf ?_
  have hf := jFr_w (n' := 248) hf (by decide)
  have hO := kj_ok (rm := ({ frames := 1, cells := 7, slots := jSl ftB ksK 252 - jSl ftB ksK 245, locals := 20 } : Room)) (ft := ftB) (Qs := Qs) (i := 3) (rk := 5) (post := fun _ _ => True) hc (by rw [lnK]; decide) (Nat.le_of_ble_eq_true rfl) (jSl_m (by decide)) (Or.inl rfl)
  refine kj_pqa hx hb hts hK had hs hown hin2 (n0 := 245) (i := 3) (v := 247) (by rw [lnK]; decide) (by unfold ri_; omega) (tkk kK_244 (by decide)) fB_9_3 rfl ff_X6_22 dX6_init_33 (fun M1 e1 => ?_)
  subst e1
  have hf := jFr_up (c := 244) (i := 3) (v := ((247 : Nat) : Int)) hf (by decide)
  refine j_aload_n hO dX6_init_36 rfl 0 rfl ?_
  refine j_sipush hO dX6_init_37 (by decide) ?_
  refine kj_al hx hb hts hK had hs hty.2.2.1 (n0 := 245) (i := 3) (N := 500) (n := 248) (i1 := 4) rfl rfl kK_248 rfl (by decide) om_1622 dX6_init_40 (Nat.le_of_ble_eq_true rfl) (jSl_m (by decide)) hf ?_
  have hf := jFr_w (n' := 249) hf (by decide)
  have hO := kj_ok (rm := ({ frames := 1, cells := 7, slots := jSl ftB ksK 252 - jSl ftB ksK 245, locals := 20 } : Room)) (ft := ftB) (Qs := Qs) (i := 4) (rk := 5) (post := fun _ _ => True) hc (by rw [lnK]; decide) (Nat.le_of_ble_eq_true rfl) (jSl_m (by decide)) (Or.inl rfl)
  refine kj_pqa hx hb hts hK had hs hown hin2 (n0 := 245) (i := 4) (v := 248) (by rw [lnK]; decide) (by unfold ri_; omega) (tkk kK_244 (by decide)) fB_9_4 rfl ff_X6_25 dX6_init_42 (fun M1 e1 => ?_)
  subst e1
  have hf := jFr_up (c := 244) (i := 4) (v := ((248 : Nat) : Int)) hf (by decide)
  refine j_aload_n hO dX6_init_45 rfl 0 rfl ?_
  refine j_bipush hO dX6_init_46 (by decide) ?_
  refine kj_al hx hb hts hK had hs hty.2.2.1 (n0 := 245) (i := 4) (N := 10) (n := 249) (i1 := 5) rfl rfl kK_249 rfl (by decide) om_1622 dX6_init_48 (Nat.le_of_ble_eq_true rfl) (jSl_m (by decide)) hf ?_
  have hf := jFr_w (n' := 250) hf (by decide)
  have hO := kj_ok (rm := ({ frames := 1, cells := 7, slots := jSl ftB ksK 252 - jSl ftB ksK 245, locals := 20 } : Room)) (ft := ftB) (Qs := Qs) (i := 5) (rk := 5) (post := fun _ _ => True) hc (by rw [lnK]; decide) (Nat.le_of_ble_eq_true rfl) (jSl_m (by decide)) (Or.inl rfl)
  refine kj_pqa hx hb hts hK had hs hown hin2 (n0 := 245) (i := 5) (v := 249) (by rw [lnK]; decide) (by unfold ri_; omega) (tkk kK_244 (by decide)) fB_9_14 rfl ff_X6_29 dX6_init_50 (fun M1 e1 => ?_)
  subst e1
  have hf := jFr_up (c := 244) (i := 14) (v := ((249 : Nat) : Int)) hf (by decide)
  refine j_aload_n hO dX6_init_53 rfl 0 rfl ?_
  refine j_bipush hO dX6_init_54 (by decide) ?_
  refine kj_ai hx hb hts hK had hs hty.2.1 (n0 := 245) (i := 5) (N := 10) (n := 250) (i1 := 6) rfl rfl kK_250 rfl (by decide) om_1617 dX6_init_56 (Nat.le_of_ble_eq_true rfl) (jSl_m (by decide)) hf ?_
  have hf := jFr_w (n' := 251) hf (by decide)
  have hO := kj_ok (rm := ({ frames := 1, cells := 7, slots := jSl ftB ksK 252 - jSl ftB ksK 245, locals := 20 } : Room)) (ft := ftB) (Qs := Qs) (i := 6) (rk := 5) (post := fun _ _ => True) hc (by rw [lnK]; decide) (Nat.le_of_ble_eq_true rfl) (jSl_m (by decide)) (Or.inl rfl)
  refine kj_pqa hx hb hts hK had hs hown hin2 (n0 := 245) (i := 6) (v := 250) (by rw [lnK]; decide) (by unfold ri_; omega) (tkk kK_244 (by decide)) fB_9_15 rfl ff_X6_32 dX6_init_58 (fun M1 e1 => ?_)
  subst e1
  have hf := jFr_up (c := 244) (i := 15) (v := ((250 : Nat) : Int)) hf (by decide)
  refine j_aload_n hO dX6_init_61 rfl 0 rfl ?_
  refine j_bipush hO dX6_init_62 (by decide) ?_
  refine kj_ai hx hb hts hK had hs hty.2.1 (n0 := 245) (i := 6) (N := 120) (n := 251) (i1 := 7) rfl rfl kK_251 rfl (by decide) om_1617 dX6_init_64 (Nat.le_of_ble_eq_true rfl) (jSl_m (by decide)) hf ?_
  have hf := jFr_w (n' := 252) hf (by decide)
  have hO := kj_ok (rm := ({ frames := 1, cells := 7, slots := jSl ftB ksK 252 - jSl ftB ksK 245, locals := 20 } : Room)) (ft := ftB) (Qs := Qs) (i := 7) (rk := 5) (post := fun _ _ => True) hc (by rw [lnK]; decide) (Nat.le_of_ble_eq_true rfl) (jSl_m (by decide)) (Or.inl rfl)
  refine kj_pqa hx hb hts hK had hs hown hin2 (n0 := 245) (i := 7) (v := 251) (by rw [lnK]; decide) (by unfold ri_; omega) (tkk kK_244 (by decide)) fB_9_17 rfl ff_X6_35 dX6_init_66 (fun M1 e1 => ?_)
  subst e1
  have hf := jFr_up (c := 244) (i := 17) (v := ((251 : Nat) : Int)) hf (by decide)
  exact hret _ _ _ dX6_init_69 hF
set_option maxHeartbeats 4000000 in
set_option maxRecDepth 100000 in
theorem c_X6_init_252 {l : Launch} {D : va_G} {cy : Nat → ClassId} {ad : Nat → Nat} {xs : Nat → Int} {L b0 : Nat} (had : ∀ k, k < ksK.length → ad k = b0 + k) : jKN l D vwCl (tyB cy) cy ad ftB ksK (XtB ad xs L) yX6_init (.code yX6_init cX6_init 2 none :: Om) ({ frames := 1, cells := 7, slots := jSl ftB ksK 260 - jSl ftB ksK 253, locals := 20 } : Room) b0 253 7 (W_X6_init_252 ad) := by
  refine jKN_of (y := yX6_init) (cc := cX6_init) (nL := 2) (rm := ({ frames := 1, cells := 7, slots := jSl ftB ksK 260 - jSl ftB ksK 253, locals := 20 } : Room)) (own := RX6) (tyB_ok cy) had (XtB_ok ad xs L) Om_good (by decide) rfl rfl ?_
  intro post av M hF
  obtain ⟨rfl, hf, hF⟩ := hF
  refine ⟨Nat.le_of_ble_eq_true rfl, fun p e s m below meth c Qs hc hin2 hret => ?_⟩
  obtain ⟨hx, hb, hml, hown, hts, hK, hty, -, hgo, hXc, hXt, hs⟩ := id hc
  have hO := kj_ok (rm := ({ frames := 1, cells := 7, slots := jSl ftB ksK 260 - jSl ftB ksK 253, locals := 20 } : Room)) (ft := ftB) (Qs := Qs) (i := 0) (rk := 5) (post := fun _ _ => True) hc (by rw [lnK]; decide) (Nat.le_of_ble_eq_true rfl) (jSl_m (by decide)) (Or.inl rfl)
  refine j_aload_n hO dX6_init_0 rfl 0 rfl ?_
  refine kj_obj hx hb hml hts hown ⟨om_1749, om_1612, om_1613⟩ dX6_init_1 (Nat.le_of_ble_eq_true rfl) (Nat.le_of_ble_eq_true rfl) (Nat.le_of_ble_eq_true rfl) ?_
  refine j_aload_n hO dX6_init_4 rfl 0 rfl ?_
  refine j_aload_n hO dX6_init_5 rfl 1 rfl ?_
  refine kj_pq hx hb hts hK had hs hown hin2 (n0 := 253) (i := 0) (v := 1) (by rw [lnK]; decide) (by unfold ri_; omega) (tkk kK_252 (by decide)) fB_9_0 rfl ff_X6_9 dX6_init_6 (fun M1 e1 => ?_)
  subst e1
  have hf := jFr_up (c := 252) (i := 0) (v := ((1 : Nat) : Int)) hf (by decide)
  refine j_aload_n hO dX6_init_9 rfl 0 rfl ?_
  refine j_sipush hO dX6_init_10 (by decide) ?_
  refine kj_ai hx hb hts hK had hs hty.2.1 (n0 := 253) (i := 0) (N := 500) (n := 253) (i1 := 1) rfl rfl kK_253 rfl (by decide) om_1617 dX6_init_13 (Nat.le_of_ble_eq_true rfl) (jSl_m (by decide)) hf ?_
  have hf := jFr_w (n' := 254) hf (by decide)
  have hO := kj_ok (rm := ({ frames := 1, cells := 7, slots := jSl ftB ksK 260 - jSl ftB ksK 253, locals := 20 } : Room)) (ft := ftB) (Qs := Qs) (i := 1) (rk := 5) (post := fun _ _ => True) hc (by rw [lnK]; decide) (Nat.le_of_ble_eq_true rfl) (jSl_m (by decide)) (Or.inl rfl)
  refine kj_pqa hx hb hts hK had hs hown hin2 (n0 := 253) (i := 1) (v := 253) (by rw [lnK]; decide) (by unfold ri_; omega) (tkk kK_252 (by decide)) fB_9_1 rfl ff_X6_15 dX6_init_15 (fun M1 e1 => ?_)
  subst e1
  have hf := jFr_up (c := 252) (i := 1) (v := ((253 : Nat) : Int)) hf (by decide)
  refine j_aload_n hO dX6_init_18 rfl 0 rfl ?_
  refine j_sipush hO dX6_init_19 (by decide) ?_
  refine kj_ai hx hb hts hK had hs hty.2.1 (n0 := 253) (i := 1) (N := 500) (n := 254) (i1 := 2) rfl rfl kK_254 rfl (by decide) om_1617 dX6_init_22 (Nat.le_of_ble_eq_true rfl) (jSl_m (by decide)) hf ?_
  have hf := jFr_w (n' := 255) hf (by decide)
  have hO := kj_ok (rm := ({ frames := 1, cells := 7, slots := jSl ftB ksK 260 - jSl ftB ksK 253, locals := 20 } : Room)) (ft := ftB) (Qs := Qs) (i := 2) (rk := 5) (post := fun _ _ => True) hc (by rw [lnK]; decide) (Nat.le_of_ble_eq_true rfl) (jSl_m (by decide)) (Or.inl rfl)
  refine kj_pqa hx hb hts hK had hs hown hin2 (n0 := 253) (i := 2) (v := 254) (by rw [lnK]; decide) (by unfold ri_; omega) (tkk kK_252 (by decide)) fB_9_2 rfl ff_X6_19 dX6_init_24 (fun M1 e1 => ?_)
  subst e1
  have hf := jFr_up (c := 252) (i := 2) (v := ((254 : Nat) : Int)) hf (by decide)
  refine j_aload_n hO dX6_init_27 rfl 0 rfl ?_
  refine j_sipush hO dX6_init_28 (by decide) ?_
  refine kj_ai hx hb hts hK had hs hty.2.1 (n0 := 253) (i := 2) (N := 500) (n := 255) (i1 := 3) rfl rfl kK_255 rfl (by decide) om_1617 dX6_init_31 (Nat.le_of_ble_eq_true rfl) (jSl_m (by decide)) hf ?_
  have hf := jFr_w (n' := 256) hf (by decide)
  have hO := kj_ok (rm := ({ frames := 1, cells := 7, slots := jSl ftB ksK 260 - jSl ftB ksK 253, locals := 20 } : Room)) (ft := ftB) (Qs := Qs) (i := 3) (rk := 5) (post := fun _ _ => True) hc (by rw [lnK]; decide) (Nat.le_of_ble_eq_true rfl) (jSl_m (by decide)) (Or.inl rfl)
  refine kj_pqa hx hb hts hK had hs hown hin2 (n0 := 253) (i := 3) (v := 255) (by rw [lnK]; decide) (by unfold ri_; omega) (tkk kK_252 (by decide)) fB_9_3 rfl ff_X6_22 dX6_init_33 (fun M1 e1 => ?_)
  subst e1
  have hf := jFr_up (c := 252) (i := 3) (v := ((255 : Nat) : Int)) hf (by decide)
  refine j_aload_n hO dX6_init_36 rfl 0 rfl ?_
  refine j_sipush hO dX6_init_37 (by decide) ?_
  refine kj_al hx hb hts hK had hs hty.2.2.1 (n0 := 253) (i := 3) (N := 500) (n := 256) (i1 := 4) rfl rfl kK_256 rfl (by decide) om_1622 dX6_init_40 (Nat.le_of_ble_eq_true rfl) (jSl_m (by decide)) hf ?_
  have hf := jFr_w (n' := 257) hf (by decide)
  have hO := kj_ok (rm := ({ frames := 1, cells := 7, slots := jSl ftB ksK 260 - jSl ftB ksK 253, locals := 20 } : Room)) (ft := ftB) (Qs := Qs) (i := 4) (rk := 5) (post := fun _ _ => True) hc (by rw [lnK]; decide) (Nat.le_of_ble_eq_true rfl) (jSl_m (by decide)) (Or.inl rfl)
  refine kj_pqa hx hb hts hK had hs hown hin2 (n0 := 253) (i := 4) (v := 256) (by rw [lnK]; decide) (by unfold ri_; omega) (tkk kK_252 (by decide)) fB_9_4 rfl ff_X6_25 dX6_init_42 (fun M1 e1 => ?_)
  subst e1
  have hf := jFr_up (c := 252) (i := 4) (v := ((256 : Nat) : Int)) hf (by decide)
  refine j_aload_n hO dX6_init_45 rfl 0 rfl ?_
  refine j_bipush hO dX6_init_46 (by decide) ?_
  refine kj_al hx hb hts hK had hs hty.2.2.1 (n0 := 253) (i := 4) (N := 10) (n := 257) (i1 := 5) rfl rfl kK_257 rfl (by decide) om_1622 dX6_init_48 (Nat.le_of_ble_eq_true rfl) (jSl_m (by decide)) hf ?_
  have hf := jFr_w (n' := 258) hf (by decide)
  have hO := kj_ok (rm := ({ frames := 1, cells := 7, slots := jSl ftB ksK 260 - jSl ftB ksK 253, locals := 20 } : Room)) (ft := ftB) (Qs := Qs) (i := 5) (rk := 5) (post := fun _ _ => True) hc (by rw [lnK]; decide) (Nat.le_of_ble_eq_true rfl) (jSl_m (by decide)) (Or.inl rfl)
  refine kj_pqa hx hb hts hK had hs hown hin2 (n0 := 253) (i := 5) (v := 257) (by rw [lnK]; decide) (by unfold ri_; omega) (tkk kK_252 (by decide)) fB_9_14 rfl ff_X6_29 dX6_init_50 (fun M1 e1 => ?_)
  subst e1
  have hf := jFr_up (c := 252) (i := 14) (v := ((257 : Nat) : Int)) hf (by decide)
  refine j_aload_n hO dX6_init_53 rfl 0 rfl ?_
  refine j_bipush hO dX6_init_54 (by decide) ?_
  refine kj_ai hx hb hts hK had hs hty.2.1 (n0 := 253) (i := 5) (N := 10) (n := 258) (i1 := 6) rfl rfl kK_258 rfl (by decide) om_1617 dX6_init_56 (Nat.le_of_ble_eq_true rfl) (jSl_m (by decide)) hf ?_
  have hf := jFr_w (n' := 259) hf (by decide)
  have hO := kj_ok (rm := ({ frames := 1, cells := 7, slots := jSl ftB ksK 260 - jSl ftB ksK 253, locals := 20 } : Room)) (ft := ftB) (Qs := Qs) (i := 6) (rk := 5) (post := fun _ _ => True) hc (by rw [lnK]; decide) (Nat.le_of_ble_eq_true rfl) (jSl_m (by decide)) (Or.inl rfl)
  refine kj_pqa hx hb hts hK had hs hown hin2 (n0 := 253) (i := 6) (v := 258) (by rw [lnK]; decide) (by unfold ri_; omega) (tkk kK_252 (by decide)) fB_9_15 rfl ff_X6_32 dX6_init_58 (fun M1 e1 => ?_)
  subst e1
  have hf := jFr_up (c := 252) (i := 15) (v := ((258 : Nat) : Int)) hf (by decide)
  refine j_aload_n hO dX6_init_61 rfl 0 rfl ?_
  refine j_bipush hO dX6_init_62 (by decide) ?_
  refine kj_ai hx hb hts hK had hs hty.2.1 (n0 := 253) (i := 6) (N := 120) (n := 259) (i1 := 7) rfl rfl kK_259 rfl (by decide) om_1617 dX6_init_64 (Nat.le_of_ble_eq_true rfl) (jSl_m (by decide)) hf ?_
  have hf := jFr_w (n' := 260) hf (by decide)
  have hO := kj_ok (rm := ({ frames := 1, cells := 7, slots := jSl ftB ksK 260 - jSl ftB ksK 253, locals := 20 } : Room)) (ft := ftB) (Qs := Qs) (i := 7) (rk := 5) (post := fun _ _ => True) hc (by rw [lnK]; decide) (Nat.le_of_ble_eq_true rfl) (jSl_m (by decide)) (Or.inl rfl)
  refine kj_pqa hx hb hts hK had hs hown hin2 (n0 := 253) (i := 7) (v := 259) (by rw [lnK]; decide) (by unfold ri_; omega) (tkk kK_252 (by decide)) fB_9_17 rfl ff_X6_35 dX6_init_66 (fun M1 e1 => ?_)
  subst e1
  have hf := jFr_up (c := 252) (i := 17) (v := ((259 : Nat) : Int)) hf (by decide)
  exact hret _ _ _ dX6_init_69 hF
set_option maxHeartbeats 4000000 in
set_option maxRecDepth 100000 in
theorem c_X7_init_261 {l : Launch} {D : va_G} {cy : Nat → ClassId} {ad : Nat → Nat} {xs : Nat → Int} {L b0 : Nat} (had : ∀ k, k < ksK.length → ad k = b0 + k) : jKN l D vwCl (tyB cy) cy ad ftB ksK (XtB ad xs L) yX7_init (.code yX7_init cX7_init 2 none :: Om) ({ frames := 6, cells := 12, slots := jSl ftB ksK 274 - jSl ftB ksK 262, locals := 146 } : Room) b0 262 12 (W_X7_init_261 ad) := by
  refine jKN_of (y := yX7_init) (cc := cX7_init) (nL := 2) (rm := ({ frames := 6, cells := 12, slots := jSl ftB ksK 274 - jSl ftB ksK 262, locals := 146 } : Room)) (own := RX7) (tyB_ok cy) had (XtB_ok ad xs L) Om_good (by decide) rfl rfl ?_
  intro post av M hF
  obtain ⟨rfl, hf, hF⟩ := hF
  refine ⟨Nat.le_of_ble_eq_true rfl, fun p e s m below meth c Qs hc hin2 hret => ?_⟩
  obtain ⟨hx, hb, hml, hown, hts, hK, hty, -, hgo, hXc, hXt, hs⟩ := id hc
  have hO := kj_ok (rm := ({ frames := 6, cells := 12, slots := jSl ftB ksK 274 - jSl ftB ksK 262, locals := 146 } : Room)) (ft := ftB) (Qs := Qs) (i := 0) (rk := 5) (post := fun _ _ => True) hc (by rw [lnK]; decide) (Nat.le_of_ble_eq_true rfl) (jSl_m (by decide)) (Or.inl rfl)
  refine j_aload_n hO dX7_init_0 rfl 0 rfl ?_
  refine kj_obj hx hb hml hts hown ⟨om_1790, om_1612, om_1613⟩ dX7_init_1 (Nat.le_of_ble_eq_true rfl) (Nat.le_of_ble_eq_true rfl) (Nat.le_of_ble_eq_true rfl) ?_
  refine j_aload_n hO dX7_init_4 rfl 0 rfl ?_
  refine j_aload_n hO dX7_init_5 rfl 1 rfl ?_
  refine kj_pq hx hb hts hK had hs hown hin2 (n0 := 262) (i := 0) (v := 1) (by rw [lnK]; decide) (by unfold ri_; omega) (tkk kK_261 (by decide)) fB_10_0 rfl ff_X7_9 dX7_init_6 (fun M1 e1 => ?_)
  subst e1
  have hf := jFr_up (c := 261) (i := 0) (v := ((1 : Nat) : Int)) hf (by decide)
  refine j_aload_n hO dX7_init_9 rfl 0 rfl ?_
  refine j_ldcS hO XtB1_s1 dX7_init_10 ?_
  refine j_callSl hO (c_X9_codeOf_B1 (l := l) (D := D) (cy := cy) (ad := ad) (xs := xs) (L := L) (ksB := ksK.take (262 + 0)) (by rw [tkl (by rw [lnK]; decide)]; exact jIn_b (fun k hk => had k (by rw [lnK]; omega)))) rfl om_1792 ⟨rfl, rfl, Nat.le_of_ble_eq_true rfl, Nat.le_of_ble_eq_true rfl⟩ [.ref (ad 905)] mv_X7_17 hd_X9_codeOf rfl (Nat.le_of_ble_eq_true rfl) dX7_init_12 (P := fun r M1 => r = 2272 ∧ M1 = _) ⟨rfl, p_codeOf1 ⟨rfl, rfl⟩⟩ (fun r M1 gr e1 => ?_)
  obtain ⟨rfl, rfl⟩ := e1
  refine kj_pl hx hb hts hK had hs hown hin2 (n0 := 262) (i := 0) (by rw [lnK]; decide) gr (tkk kK_261 (by decide)) fB_10_1 rfl ff_X7_23 dX7_init_15 (fun M1 e1 => ?_)
  subst e1
  have hf := jFr_up (c := 261) (i := 1) (v := 2272) hf (by decide)
  refine j_aload_n hO dX7_init_18 rfl 0 rfl ?_
  refine j_ldcS hO XtB2_s1 dX7_init_19 ?_
  refine j_callSl hO (c_X9_codeOf_B2 (l := l) (D := D) (cy := cy) (ad := ad) (xs := xs) (L := L) (ksB := ksK.take (262 + 0)) (by rw [tkl (by rw [lnK]; decide)]; exact jIn_b (fun k hk => had k (by rw [lnK]; omega)))) rfl om_1792 ⟨rfl, rfl, Nat.le_of_ble_eq_true rfl, Nat.le_of_ble_eq_true rfl⟩ [.ref (ad 907)] mv_X7_17 hd_X9_codeOf rfl (Nat.le_of_ble_eq_true rfl) dX7_init_21 (P := fun r M1 => r = 10107429 ∧ M1 = _) ⟨rfl, p_codeOf2 ⟨rfl, rfl⟩⟩ (fun r M1 gr e1 => ?_)
  obtain ⟨rfl, rfl⟩ := e1
  refine kj_pl hx hb hts hK had hs hown hin2 (n0 := 262) (i := 0) (by rw [lnK]; decide) gr (tkk kK_261 (by decide)) fB_10_2 rfl ff_X7_29 dX7_init_24 (fun M1 e1 => ?_)
  subst e1
  have hf := jFr_up (c := 261) (i := 2) (v := 10107429) hf (by decide)
  refine j_aload_n hO dX7_init_27 rfl 0 rfl ?_
  refine j_bipush hO dX7_init_28 (by decide) ?_
  refine kj_ai hx hb hts hK had hs hty.2.1 (n0 := 262) (i := 0) (N := 12) (n := 262) (i1 := 1) rfl rfl kK_262 rfl (by decide) om_1617 dX7_init_30 (Nat.le_of_ble_eq_true rfl) (jSl_m (by decide)) hf ?_
  have hf := jFr_w (n' := 263) hf (by decide)
  have hO := kj_ok (rm := ({ frames := 6, cells := 12, slots := jSl ftB ksK 274 - jSl ftB ksK 262, locals := 146 } : Room)) (ft := ftB) (Qs := Qs) (i := 1) (rk := 5) (post := fun _ _ => True) hc (by rw [lnK]; decide) (Nat.le_of_ble_eq_true rfl) (jSl_m (by decide)) (Or.inl rfl)
  refine kj_pqa hx hb hts hK had hs hown hin2 (n0 := 262) (i := 1) (v := 262) (by rw [lnK]; decide) (by unfold ri_; omega) (tkk kK_261 (by decide)) fB_10_4 rfl ff_X7_32 dX7_init_32 (fun M1 e1 => ?_)
  subst e1
  have hf := jFr_up (c := 261) (i := 4) (v := ((262 : Nat) : Int)) hf (by decide)
  refine j_aload_n hO dX7_init_35 rfl 0 rfl ?_
  refine j_bipush hO dX7_init_36 (by decide) ?_
  refine kj_ai hx hb hts hK had hs hty.2.1 (n0 := 262) (i := 1) (N := 12) (n := 263) (i1 := 2) rfl rfl kK_263 rfl (by decide) om_1617 dX7_init_38 (Nat.le_of_ble_eq_true rfl) (jSl_m (by decide)) hf ?_
  have hf := jFr_w (n' := 264) hf (by decide)
  have hO := kj_ok (rm := ({ frames := 6, cells := 12, slots := jSl ftB ksK 274 - jSl ftB ksK 262, locals := 146 } : Room)) (ft := ftB) (Qs := Qs) (i := 2) (rk := 5) (post := fun _ _ => True) hc (by rw [lnK]; decide) (Nat.le_of_ble_eq_true rfl) (jSl_m (by decide)) (Or.inl rfl)
  refine kj_pqa hx hb hts hK had hs hown hin2 (n0 := 262) (i := 2) (v := 263) (by rw [lnK]; decide) (by unfold ri_; omega) (tkk kK_261 (by decide)) fB_10_5 rfl ff_X7_36 dX7_init_40 (fun M1 e1 => ?_)
  subst e1
  have hf := jFr_up (c := 261) (i := 5) (v := ((263 : Nat) : Int)) hf (by decide)
  refine j_aload_n hO dX7_init_43 rfl 0 rfl ?_
  refine j_bipush hO dX7_init_44 (by decide) ?_
  refine kj_ai hx hb hts hK had hs hty.2.1 (n0 := 262) (i := 2) (N := 12) (n := 264) (i1 := 3) rfl rfl kK_264 rfl (by decide) om_1617 dX7_init_46 (Nat.le_of_ble_eq_true rfl) (jSl_m (by decide)) hf ?_
  have hf := jFr_w (n' := 265) hf (by decide)
  have hO := kj_ok (rm := ({ frames := 6, cells := 12, slots := jSl ftB ksK 274 - jSl ftB ksK 262, locals := 146 } : Room)) (ft := ftB) (Qs := Qs) (i := 3) (rk := 5) (post := fun _ _ => True) hc (by rw [lnK]; decide) (Nat.le_of_ble_eq_true rfl) (jSl_m (by decide)) (Or.inl rfl)
  refine kj_pqa hx hb hts hK had hs hown hin2 (n0 := 262) (i := 3) (v := 264) (by rw [lnK]; decide) (by unfold ri_; omega) (tkk kK_261 (by decide)) fB_10_6 rfl ff_X7_39 dX7_init_48 (fun M1 e1 => ?_)
  subst e1
  have hf := jFr_up (c := 261) (i := 6) (v := ((264 : Nat) : Int)) hf (by decide)
  refine j_aload_n hO dX7_init_51 rfl 0 rfl ?_
  refine j_bipush hO dX7_init_52 (by decide) ?_
  refine kj_ai hx hb hts hK had hs hty.2.1 (n0 := 262) (i := 3) (N := 12) (n := 265) (i1 := 4) rfl rfl kK_265 rfl (by decide) om_1617 dX7_init_54 (Nat.le_of_ble_eq_true rfl) (jSl_m (by decide)) hf ?_
  have hf := jFr_w (n' := 266) hf (by decide)
  have hO := kj_ok (rm := ({ frames := 6, cells := 12, slots := jSl ftB ksK 274 - jSl ftB ksK 262, locals := 146 } : Room)) (ft := ftB) (Qs := Qs) (i := 4) (rk := 5) (post := fun _ _ => True) hc (by rw [lnK]; decide) (Nat.le_of_ble_eq_true rfl) (jSl_m (by decide)) (Or.inl rfl)
  refine kj_pqa hx hb hts hK had hs hown hin2 (n0 := 262) (i := 4) (v := 265) (by rw [lnK]; decide) (by unfold ri_; omega) (tkk kK_261 (by decide)) fB_10_7 rfl ff_X7_42 dX7_init_56 (fun M1 e1 => ?_)
  subst e1
  have hf := jFr_up (c := 261) (i := 7) (v := ((265 : Nat) : Int)) hf (by decide)
  refine j_aload_n hO dX7_init_59 rfl 0 rfl ?_
  refine j_bipush hO dX7_init_60 (by decide) ?_
  refine kj_ai hx hb hts hK had hs hty.2.1 (n0 := 262) (i := 4) (N := 12) (n := 266) (i1 := 5) rfl rfl kK_266 rfl (by decide) om_1617 dX7_init_62 (Nat.le_of_ble_eq_true rfl) (jSl_m (by decide)) hf ?_
  have hf := jFr_w (n' := 267) hf (by decide)
  have hO := kj_ok (rm := ({ frames := 6, cells := 12, slots := jSl ftB ksK 274 - jSl ftB ksK 262, locals := 146 } : Room)) (ft := ftB) (Qs := Qs) (i := 5) (rk := 5) (post := fun _ _ => True) hc (by rw [lnK]; decide) (Nat.le_of_ble_eq_true rfl) (jSl_m (by decide)) (Or.inl rfl)
  refine kj_pqa hx hb hts hK had hs hown hin2 (n0 := 262) (i := 5) (v := 266) (by rw [lnK]; decide) (by unfold ri_; omega) (tkk kK_261 (by decide)) fB_10_8 rfl ff_X7_45 dX7_init_64 (fun M1 e1 => ?_)
  subst e1
  have hf := jFr_up (c := 261) (i := 8) (v := ((266 : Nat) : Int)) hf (by decide)
  refine j_aload_n hO dX7_init_67 rfl 0 rfl ?_
  refine j_bipush hO dX7_init_68 (by decide) ?_
  refine kj_ai hx hb hts hK had hs hty.2.1 (n0 := 262) (i := 5) (N := 48) (n := 267) (i1 := 6) rfl rfl kK_267 rfl (by decide) om_1617 dX7_init_70 (Nat.le_of_ble_eq_true rfl) (jSl_m (by decide)) hf ?_
  have hf := jFr_w (n' := 268) hf (by decide)
  have hO := kj_ok (rm := ({ frames := 6, cells := 12, slots := jSl ftB ksK 274 - jSl ftB ksK 262, locals := 146 } : Room)) (ft := ftB) (Qs := Qs) (i := 6) (rk := 5) (post := fun _ _ => True) hc (by rw [lnK]; decide) (Nat.le_of_ble_eq_true rfl) (jSl_m (by decide)) (Or.inl rfl)
  refine kj_pqa hx hb hts hK had hs hown hin2 (n0 := 262) (i := 6) (v := 267) (by rw [lnK]; decide) (by unfold ri_; omega) (tkk kK_261 (by decide)) fB_10_9 rfl ff_X7_48 dX7_init_72 (fun M1 e1 => ?_)
  subst e1
  have hf := jFr_up (c := 261) (i := 9) (v := ((267 : Nat) : Int)) hf (by decide)
  refine j_aload_n hO dX7_init_75 rfl 0 rfl ?_
  refine j_bipush hO dX7_init_76 (by decide) ?_
  refine kj_ai hx hb hts hK had hs hty.2.1 (n0 := 262) (i := 6) (N := 48) (n := 268) (i1 := 7) rfl rfl kK_268 rfl (by decide) om_1617 dX7_init_78 (Nat.le_of_ble_eq_true rfl) (jSl_m (by decide)) hf ?_
  have hf := jFr_w (n' := 269) hf (by decide)
  have hO := kj_ok (rm := ({ frames := 6, cells := 12, slots := jSl ftB ksK 274 - jSl ftB ksK 262, locals := 146 } : Room)) (ft := ftB) (Qs := Qs) (i := 7) (rk := 5) (post := fun _ _ => True) hc (by rw [lnK]; decide) (Nat.le_of_ble_eq_true rfl) (jSl_m (by decide)) (Or.inl rfl)
  refine kj_pqa hx hb hts hK had hs hown hin2 (n0 := 262) (i := 7) (v := 268) (by rw [lnK]; decide) (by unfold ri_; omega) (tkk kK_261 (by decide)) fB_10_10 rfl ff_X7_51 dX7_init_80 (fun M1 e1 => ?_)
  subst e1
  have hf := jFr_up (c := 261) (i := 10) (v := ((268 : Nat) : Int)) hf (by decide)
  refine j_aload_n hO dX7_init_83 rfl 0 rfl ?_
  refine j_bipush hO dX7_init_84 (by decide) ?_
  refine kj_ai hx hb hts hK had hs hty.2.1 (n0 := 262) (i := 7) (N := 48) (n := 269) (i1 := 8) rfl rfl kK_269 rfl (by decide) om_1617 dX7_init_86 (Nat.le_of_ble_eq_true rfl) (jSl_m (by decide)) hf ?_
  have hf := jFr_w (n' := 270) hf (by decide)
  have hO := kj_ok (rm := ({ frames := 6, cells := 12, slots := jSl ftB ksK 274 - jSl ftB ksK 262, locals := 146 } : Room)) (ft := ftB) (Qs := Qs) (i := 8) (rk := 5) (post := fun _ _ => True) hc (by rw [lnK]; decide) (Nat.le_of_ble_eq_true rfl) (jSl_m (by decide)) (Or.inl rfl)
  refine kj_pqa hx hb hts hK had hs hown hin2 (n0 := 262) (i := 8) (v := 269) (by rw [lnK]; decide) (by unfold ri_; omega) (tkk kK_261 (by decide)) fB_10_11 rfl ff_X7_54 dX7_init_88 (fun M1 e1 => ?_)
  subst e1
  have hf := jFr_up (c := 261) (i := 11) (v := ((269 : Nat) : Int)) hf (by decide)
  refine j_aload_n hO dX7_init_91 rfl 0 rfl ?_
  refine j_bipush hO dX7_init_92 (by decide) ?_
  refine kj_al hx hb hts hK had hs hty.2.2.1 (n0 := 262) (i := 8) (N := 48) (n := 270) (i1 := 9) rfl rfl kK_270 rfl (by decide) om_1622 dX7_init_94 (Nat.le_of_ble_eq_true rfl) (jSl_m (by decide)) hf ?_
  have hf := jFr_w (n' := 271) hf (by decide)
  have hO := kj_ok (rm := ({ frames := 6, cells := 12, slots := jSl ftB ksK 274 - jSl ftB ksK 262, locals := 146 } : Room)) (ft := ftB) (Qs := Qs) (i := 9) (rk := 5) (post := fun _ _ => True) hc (by rw [lnK]; decide) (Nat.le_of_ble_eq_true rfl) (jSl_m (by decide)) (Or.inl rfl)
  refine kj_pqa hx hb hts hK had hs hown hin2 (n0 := 262) (i := 9) (v := 270) (by rw [lnK]; decide) (by unfold ri_; omega) (tkk kK_261 (by decide)) fB_10_12 rfl ff_X7_57 dX7_init_96 (fun M1 e1 => ?_)
  subst e1
  have hf := jFr_up (c := 261) (i := 12) (v := ((270 : Nat) : Int)) hf (by decide)
  refine j_aload_n hO dX7_init_99 rfl 0 rfl ?_
  refine j_iconst hO dX7_init_100 ?_
  refine kj_al hx hb hts hK had hs hty.2.2.1 (n0 := 262) (i := 9) (N := 3) (n := 271) (i1 := 10) rfl rfl kK_271 rfl (by decide) om_1622 dX7_init_101 (Nat.le_of_ble_eq_true rfl) (jSl_m (by decide)) hf ?_
  have hf := jFr_w (n' := 272) hf (by decide)
  have hO := kj_ok (rm := ({ frames := 6, cells := 12, slots := jSl ftB ksK 274 - jSl ftB ksK 262, locals := 146 } : Room)) (ft := ftB) (Qs := Qs) (i := 10) (rk := 5) (post := fun _ _ => True) hc (by rw [lnK]; decide) (Nat.le_of_ble_eq_true rfl) (jSl_m (by decide)) (Or.inl rfl)
  refine kj_pqa hx hb hts hK had hs hown hin2 (n0 := 262) (i := 10) (v := 271) (by rw [lnK]; decide) (by unfold ri_; omega) (tkk kK_261 (by decide)) fB_10_13 rfl ff_X7_61 dX7_init_103 (fun M1 e1 => ?_)
  subst e1
  have hf := jFr_up (c := 261) (i := 13) (v := ((271 : Nat) : Int)) hf (by decide)
  refine j_aload_n hO dX7_init_106 rfl 0 rfl ?_
  refine j_bipush hO dX7_init_107 (by decide) ?_
  refine kj_al hx hb hts hK had hs hty.2.2.1 (n0 := 262) (i := 10) (N := 6) (n := 272) (i1 := 11) rfl rfl kK_272 rfl (by decide) om_1622 dX7_init_109 (Nat.le_of_ble_eq_true rfl) (jSl_m (by decide)) hf ?_
  have hf := jFr_w (n' := 273) hf (by decide)
  have hO := kj_ok (rm := ({ frames := 6, cells := 12, slots := jSl ftB ksK 274 - jSl ftB ksK 262, locals := 146 } : Room)) (ft := ftB) (Qs := Qs) (i := 11) (rk := 5) (post := fun _ _ => True) hc (by rw [lnK]; decide) (Nat.le_of_ble_eq_true rfl) (jSl_m (by decide)) (Or.inl rfl)
  refine kj_pqa hx hb hts hK had hs hown hin2 (n0 := 262) (i := 11) (v := 272) (by rw [lnK]; decide) (by unfold ri_; omega) (tkk kK_261 (by decide)) fB_10_17 rfl ff_X7_64 dX7_init_111 (fun M1 e1 => ?_)
  subst e1
  have hf := jFr_up (c := 261) (i := 17) (v := ((272 : Nat) : Int)) hf (by decide)
  refine j_aload_n hO dX7_init_114 rfl 0 rfl ?_
  refine j_bipush hO dX7_init_115 (by decide) ?_
  refine kj_ai hx hb hts hK had hs hty.2.1 (n0 := 262) (i := 11) (N := 6) (n := 273) (i1 := 12) rfl rfl kK_273 rfl (by decide) om_1617 dX7_init_117 (Nat.le_of_ble_eq_true rfl) (jSl_m (by decide)) hf ?_
  have hf := jFr_w (n' := 274) hf (by decide)
  have hO := kj_ok (rm := ({ frames := 6, cells := 12, slots := jSl ftB ksK 274 - jSl ftB ksK 262, locals := 146 } : Room)) (ft := ftB) (Qs := Qs) (i := 12) (rk := 5) (post := fun _ _ => True) hc (by rw [lnK]; decide) (Nat.le_of_ble_eq_true rfl) (jSl_m (by decide)) (Or.inl rfl)
  refine kj_pqa hx hb hts hK had hs hown hin2 (n0 := 262) (i := 12) (v := 273) (by rw [lnK]; decide) (by unfold ri_; omega) (tkk kK_261 (by decide)) fB_10_18 rfl ff_X7_67 dX7_init_119 (fun M1 e1 => ?_)
  subst e1
  have hf := jFr_up (c := 261) (i := 18) (v := ((273 : Nat) : Int)) hf (by decide)
  exact hret _ _ _ dX7_init_122 hF
set_option maxHeartbeats 4000000 in
set_option maxRecDepth 100000 in
theorem c_X1_init_274 {l : Launch} {D : va_G} {cy : Nat → ClassId} {ad : Nat → Nat} {xs : Nat → Int} {L b0 : Nat} (had : ∀ k, k < ksK.length → ad k = b0 + k) : jKN l D vwCl (tyB cy) cy ad ftB ksK (XtB ad xs L) yX1_init (.code yX1_init cX1_init 2 none :: Om) ({ frames := 1, cells := 5, slots := jSl ftB ksK 280 - jSl ftB ksK 275, locals := 20 } : Room) b0 275 5 (W_X1_init_274 ad) := by
  refine jKN_of (y := yX1_init) (cc := cX1_init) (nL := 2) (rm := ({ frames := 1, cells := 5, slots := jSl ftB ksK 280 - jSl ftB ksK 275, locals := 20 } : Room)) (own := RX1) (tyB_ok cy) had (XtB_ok ad xs L) Om_good (by decide) rfl rfl ?_
  intro post av M hF
  obtain ⟨rfl, hf, hF⟩ := hF
  refine ⟨Nat.le_of_ble_eq_true rfl, fun p e s m below meth c Qs hc hin2 hret => ?_⟩
  obtain ⟨hx, hb, hml, hown, hts, hK, hty, -, hgo, hXc, hXt, hs⟩ := id hc
  have hO := kj_ok (rm := ({ frames := 1, cells := 5, slots := jSl ftB ksK 280 - jSl ftB ksK 275, locals := 20 } : Room)) (ft := ftB) (Qs := Qs) (i := 0) (rk := 5) (post := fun _ _ => True) hc (by rw [lnK]; decide) (Nat.le_of_ble_eq_true rfl) (jSl_m (by decide)) (Or.inl rfl)
  refine j_aload_n hO dX1_init_0 rfl 0 rfl ?_
  refine kj_obj hx hb hml hts hown ⟨om_1815, om_1612, om_1613⟩ dX1_init_1 (Nat.le_of_ble_eq_true rfl) (Nat.le_of_ble_eq_true rfl) (Nat.le_of_ble_eq_true rfl) ?_
  refine j_aload_n hO dX1_init_4 rfl 0 rfl ?_
  refine j_aload_n hO dX1_init_5 rfl 1 rfl ?_
  refine kj_pq hx hb hts hK had hs hown hin2 (n0 := 275) (i := 0) (v := 8) (by rw [lnK]; decide) (by unfold ri_; omega) (tkk kK_274 (by decide)) fB_4_0 rfl ff_X1_9 dX1_init_6 (fun M1 e1 => ?_)
  subst e1
  have hf := jFr_up (c := 274) (i := 0) (v := ((8 : Nat) : Int)) hf (by decide)
  refine j_aload_n hO dX1_init_9 rfl 0 rfl ?_
  refine j_sipush hO dX1_init_10 (by decide) ?_
  refine kj_al hx hb hts hK had hs hty.2.2.1 (n0 := 275) (i := 0) (N := 360) (n := 275) (i1 := 1) rfl rfl kK_275 rfl (by decide) om_1622 dX1_init_13 (Nat.le_of_ble_eq_true rfl) (jSl_m (by decide)) hf ?_
  have hf := jFr_w (n' := 276) hf (by decide)
  have hO := kj_ok (rm := ({ frames := 1, cells := 5, slots := jSl ftB ksK 280 - jSl ftB ksK 275, locals := 20 } : Room)) (ft := ftB) (Qs := Qs) (i := 1) (rk := 5) (post := fun _ _ => True) hc (by rw [lnK]; decide) (Nat.le_of_ble_eq_true rfl) (jSl_m (by decide)) (Or.inl rfl)
  refine kj_pqa hx hb hts hK had hs hown hin2 (n0 := 275) (i := 1) (v := 275) (by rw [lnK]; decide) (by unfold ri_; omega) (tkk kK_274 (by decide)) fB_4_3 rfl ff_X1_15 dX1_init_15 (fun M1 e1 => ?_)
  subst e1
  have hf := jFr_up (c := 274) (i := 3) (v := ((275 : Nat) : Int)) hf (by decide)
  refine j_aload_n hO dX1_init_18 rfl 0 rfl ?_
  refine j_sipush hO dX1_init_19 (by decide) ?_
  refine kj_al hx hb hts hK had hs hty.2.2.1 (n0 := 275) (i := 1) (N := 360) (n := 276) (i1 := 2) rfl rfl kK_276 rfl (by decide) om_1622 dX1_init_22 (Nat.le_of_ble_eq_true rfl) (jSl_m (by decide)) hf ?_
  have hf := jFr_w (n' := 277) hf (by decide)
  have hO := kj_ok (rm := ({ frames := 1, cells := 5, slots := jSl ftB ksK 280 - jSl ftB ksK 275, locals := 20 } : Room)) (ft := ftB) (Qs := Qs) (i := 2) (rk := 5) (post := fun _ _ => True) hc (by rw [lnK]; decide) (Nat.le_of_ble_eq_true rfl) (jSl_m (by decide)) (Or.inl rfl)
  refine kj_pqa hx hb hts hK had hs hown hin2 (n0 := 275) (i := 2) (v := 276) (by rw [lnK]; decide) (by unfold ri_; omega) (tkk kK_274 (by decide)) fB_4_4 rfl ff_X1_19 dX1_init_24 (fun M1 e1 => ?_)
  subst e1
  have hf := jFr_up (c := 274) (i := 4) (v := ((276 : Nat) : Int)) hf (by decide)
  refine j_aload_n hO dX1_init_27 rfl 0 rfl ?_
  refine j_bipush hO dX1_init_28 (by decide) ?_
  refine kj_al hx hb hts hK had hs hty.2.2.1 (n0 := 275) (i := 2) (N := 9) (n := 277) (i1 := 3) rfl rfl kK_277 rfl (by decide) om_1622 dX1_init_30 (Nat.le_of_ble_eq_true rfl) (jSl_m (by decide)) hf ?_
  have hf := jFr_w (n' := 278) hf (by decide)
  have hO := kj_ok (rm := ({ frames := 1, cells := 5, slots := jSl ftB ksK 280 - jSl ftB ksK 275, locals := 20 } : Room)) (ft := ftB) (Qs := Qs) (i := 3) (rk := 5) (post := fun _ _ => True) hc (by rw [lnK]; decide) (Nat.le_of_ble_eq_true rfl) (jSl_m (by decide)) (Or.inl rfl)
  refine kj_pqa hx hb hts hK had hs hown hin2 (n0 := 275) (i := 3) (v := 277) (by rw [lnK]; decide) (by unfold ri_; omega) (tkk kK_274 (by decide)) fB_4_5 rfl ff_X1_22 dX1_init_32 (fun M1 e1 => ?_)
  subst e1
  have hf := jFr_up (c := 274) (i := 5) (v := ((277 : Nat) : Int)) hf (by decide)
  refine j_aload_n hO dX1_init_35 rfl 0 rfl ?_
  refine j_bipush hO dX1_init_36 (by decide) ?_
  refine kj_al hx hb hts hK had hs hty.2.2.1 (n0 := 275) (i := 3) (N := 48) (n := 278) (i1 := 4) rfl rfl kK_278 rfl (by decide) om_1622 dX1_init_38 (Nat.le_of_ble_eq_true rfl) (jSl_m (by decide)) hf ?_
  have hf := jFr_w (n' := 279) hf (by decide)
  have hO := kj_ok (rm := ({ frames := 1, cells := 5, slots := jSl ftB ksK 280 - jSl ftB ksK 275, locals := 20 } : Room)) (ft := ftB) (Qs := Qs) (i := 4) (rk := 5) (post := fun _ _ => True) hc (by rw [lnK]; decide) (Nat.le_of_ble_eq_true rfl) (jSl_m (by decide)) (Or.inl rfl)
  refine kj_pqa hx hb hts hK had hs hown hin2 (n0 := 275) (i := 4) (v := 278) (by rw [lnK]; decide) (by unfold ri_; omega) (tkk kK_274 (by decide)) fB_4_6 rfl ff_X1_27 dX1_init_40 (fun M1 e1 => ?_)
  subst e1
  have hf := jFr_up (c := 274) (i := 6) (v := ((278 : Nat) : Int)) hf (by decide)
  refine j_aload_n hO dX1_init_43 rfl 0 rfl ?_
  refine j_iconst hO dX1_init_44 ?_
  refine kj_ai hx hb hts hK had hs hty.2.1 (n0 := 275) (i := 4) (N := 3) (n := 279) (i1 := 5) rfl rfl kK_279 rfl (by decide) om_1617 dX1_init_45 (Nat.le_of_ble_eq_true rfl) (jSl_m (by decide)) hf ?_
  have hf := jFr_w (n' := 280) hf (by decide)
  have hO := kj_ok (rm := ({ frames := 1, cells := 5, slots := jSl ftB ksK 280 - jSl ftB ksK 275, locals := 20 } : Room)) (ft := ftB) (Qs := Qs) (i := 5) (rk := 5) (post := fun _ _ => True) hc (by rw [lnK]; decide) (Nat.le_of_ble_eq_true rfl) (jSl_m (by decide)) (Or.inl rfl)
  refine kj_pqa hx hb hts hK had hs hown hin2 (n0 := 275) (i := 5) (v := 279) (by rw [lnK]; decide) (by unfold ri_; omega) (tkk kK_274 (by decide)) fB_4_7 rfl ff_X1_30 dX1_init_47 (fun M1 e1 => ?_)
  subst e1
  have hf := jFr_up (c := 274) (i := 7) (v := ((279 : Nat) : Int)) hf (by decide)
  exact hret _ _ _ dX1_init_50 hF
set_option maxHeartbeats 4000000 in
set_option maxRecDepth 100000 in
theorem c_X0_init_280 {l : Launch} {D : va_G} {cy : Nat → ClassId} {ad : Nat → Nat} {xs : Nat → Int} {L b0 : Nat} (had : ∀ k, k < ksK.length → ad k = b0 + k) : jKN l D vwCl (tyB cy) cy ad ftB ksK (XtB ad xs L) yX0_init (.code yX0_init cX0_init 2 none :: Om) ({ frames := 1, cells := 4, slots := jSl ftB ksK 285 - jSl ftB ksK 281, locals := 20 } : Room) b0 281 4 (W_X0_init_280 ad) := by
  refine jKN_of (y := yX0_init) (cc := cX0_init) (nL := 2) (rm := ({ frames := 1, cells := 4, slots := jSl ftB ksK 285 - jSl ftB ksK 281, locals := 20 } : Room)) (own := RX0) (tyB_ok cy) had (XtB_ok ad xs L) Om_good (by decide) rfl rfl ?_
  intro post av M hF
  obtain ⟨rfl, hf, hF⟩ := hF
  refine ⟨Nat.le_of_ble_eq_true rfl, fun p e s m below meth c Qs hc hin2 hret => ?_⟩
  obtain ⟨hx, hb, hml, hown, hts, hK, hty, -, hgo, hXc, hXt, hs⟩ := id hc
  have hO := kj_ok (rm := ({ frames := 1, cells := 4, slots := jSl ftB ksK 285 - jSl ftB ksK 281, locals := 20 } : Room)) (ft := ftB) (Qs := Qs) (i := 0) (rk := 5) (post := fun _ _ => True) hc (by rw [lnK]; decide) (Nat.le_of_ble_eq_true rfl) (jSl_m (by decide)) (Or.inl rfl)
  refine j_aload_n hO dX0_init_0 rfl 0 rfl ?_
  refine kj_obj hx hb hml hts hown ⟨om_1828, om_1612, om_1613⟩ dX0_init_1 (Nat.le_of_ble_eq_true rfl) (Nat.le_of_ble_eq_true rfl) (Nat.le_of_ble_eq_true rfl) ?_
  refine j_aload_n hO dX0_init_4 rfl 0 rfl ?_
  refine j_aload_n hO dX0_init_5 rfl 1 rfl ?_
  refine kj_pq hx hb hts hK had hs hown hin2 (n0 := 281) (i := 0) (v := 8) (by rw [lnK]; decide) (by unfold ri_; omega) (tkk kK_280 (by decide)) fB_3_0 rfl ff_X0_11 dX0_init_6 (fun M1 e1 => ?_)
  subst e1
  have hf := jFr_up (c := 280) (i := 0) (v := ((8 : Nat) : Int)) hf (by decide)
  refine j_aload_n hO dX0_init_9 rfl 0 rfl ?_
  refine j_sipush hO dX0_init_10 (by decide) ?_
  refine kj_ai hx hb hts hK had hs hty.2.1 (n0 := 281) (i := 0) (N := 4000) (n := 281) (i1 := 1) rfl rfl kK_281 rfl (by decide) om_1617 dX0_init_13 (Nat.le_of_ble_eq_true rfl) (jSl_m (by decide)) hf ?_
  have hf := jFr_w (n' := 282) hf (by decide)
  have hO := kj_ok (rm := ({ frames := 1, cells := 4, slots := jSl ftB ksK 285 - jSl ftB ksK 281, locals := 20 } : Room)) (ft := ftB) (Qs := Qs) (i := 1) (rk := 5) (post := fun _ _ => True) hc (by rw [lnK]; decide) (Nat.le_of_ble_eq_true rfl) (jSl_m (by decide)) (Or.inl rfl)
  refine kj_pqa hx hb hts hK had hs hown hin2 (n0 := 281) (i := 1) (v := 281) (by rw [lnK]; decide) (by unfold ri_; omega) (tkk kK_280 (by decide)) fB_3_1 rfl ff_X0_19 dX0_init_15 (fun M1 e1 => ?_)
  subst e1
  have hf := jFr_up (c := 280) (i := 1) (v := ((281 : Nat) : Int)) hf (by decide)
  refine j_aload_n hO dX0_init_18 rfl 0 rfl ?_
  refine j_sipush hO dX0_init_19 (by decide) ?_
  refine kj_ai hx hb hts hK had hs hty.2.1 (n0 := 281) (i := 1) (N := 8000) (n := 282) (i1 := 2) rfl rfl kK_282 rfl (by decide) om_1617 dX0_init_22 (Nat.le_of_ble_eq_true rfl) (jSl_m (by decide)) hf ?_
  have hf := jFr_w (n' := 283) hf (by decide)
  have hO := kj_ok (rm := ({ frames := 1, cells := 4, slots := jSl ftB ksK 285 - jSl ftB ksK 281, locals := 20 } : Room)) (ft := ftB) (Qs := Qs) (i := 2) (rk := 5) (post := fun _ _ => True) hc (by rw [lnK]; decide) (Nat.le_of_ble_eq_true rfl) (jSl_m (by decide)) (Or.inl rfl)
  refine kj_pqa hx hb hts hK had hs hown hin2 (n0 := 281) (i := 2) (v := 282) (by rw [lnK]; decide) (by unfold ri_; omega) (tkk kK_280 (by decide)) fB_3_3 rfl ff_X0_23 dX0_init_24 (fun M1 e1 => ?_)
  subst e1
  have hf := jFr_up (c := 280) (i := 3) (v := ((282 : Nat) : Int)) hf (by decide)
  refine j_aload_n hO dX0_init_27 rfl 0 rfl ?_
  refine j_aload_n hO dX0_init_28 rfl 0 rfl ?_
  refine j_gq (v := 281) hO (tkk kK_280 (by decide)) fB_3_1 rfl fl_X0_19 dX0_init_29 (by rfl) ?_
  refine j_pqa (v := 281) hO (by unfold ri_; omega) (tkk kK_280 (by decide)) fB_3_6 rfl fp_X0_26 dX0_init_32 (fun M1 e1 => ?_)
  subst e1
  have hf := jFr_up (c := 280) (i := 6) (v := ((281 : Nat) : Int)) hf (by decide)
  refine j_aload_n hO dX0_init_35 rfl 0 rfl ?_
  refine j_sipush hO dX0_init_36 (by decide) ?_
  refine kj_ai hx hb hts hK had hs hty.2.1 (n0 := 281) (i := 2) (N := 400) (n := 283) (i1 := 3) rfl rfl kK_283 rfl (by decide) om_1617 dX0_init_39 (Nat.le_of_ble_eq_true rfl) (jSl_m (by decide)) hf ?_
  have hf := jFr_w (n' := 284) hf (by decide)
  have hO := kj_ok (rm := ({ frames := 1, cells := 4, slots := jSl ftB ksK 285 - jSl ftB ksK 281, locals := 20 } : Room)) (ft := ftB) (Qs := Qs) (i := 3) (rk := 5) (post := fun _ _ => True) hc (by rw [lnK]; decide) (Nat.le_of_ble_eq_true rfl) (jSl_m (by decide)) (Or.inl rfl)
  refine kj_pqa hx hb hts hK had hs hown hin2 (n0 := 281) (i := 3) (v := 283) (by rw [lnK]; decide) (by unfold ri_; omega) (tkk kK_280 (by decide)) fB_3_11 rfl ff_X0_29 dX0_init_41 (fun M1 e1 => ?_)
  subst e1
  have hf := jFr_up (c := 280) (i := 11) (v := ((283 : Nat) : Int)) hf (by decide)
  refine j_aload_n hO dX0_init_44 rfl 0 rfl ?_
  refine j_sipush hO dX0_init_45 (by decide) ?_
  refine kj_ai hx hb hts hK had hs hty.2.1 (n0 := 281) (i := 3) (N := 4000) (n := 284) (i1 := 4) rfl rfl kK_284 rfl (by decide) om_1617 dX0_init_48 (Nat.le_of_ble_eq_true rfl) (jSl_m (by decide)) hf ?_
  have hf := jFr_w (n' := 285) hf (by decide)
  have hO := kj_ok (rm := ({ frames := 1, cells := 4, slots := jSl ftB ksK 285 - jSl ftB ksK 281, locals := 20 } : Room)) (ft := ftB) (Qs := Qs) (i := 4) (rk := 5) (post := fun _ _ => True) hc (by rw [lnK]; decide) (Nat.le_of_ble_eq_true rfl) (jSl_m (by decide)) (Or.inl rfl)
  refine kj_pqa hx hb hts hK had hs hown hin2 (n0 := 281) (i := 4) (v := 284) (by rw [lnK]; decide) (by unfold ri_; omega) (tkk kK_280 (by decide)) fB_3_12 rfl ff_X0_32 dX0_init_50 (fun M1 e1 => ?_)
  subst e1
  have hf := jFr_up (c := 280) (i := 12) (v := ((284 : Nat) : Int)) hf (by decide)
  exact hret _ _ _ dX0_init_53 hF
