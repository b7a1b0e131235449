/-! questions worked out: acts over one value, both sides -/
theorem r_b42 {G : Nat → (Int → MM → Prop) → List Int → MM → Prop} {Q : Int → MM → Prop} {c pc : Nat} {M0 R0 R : MM} {p B y k t : Int} (hE : EnvQ c pc M0 R0 p B) (hR : RB0 p R0 R) (t0 : 0 ≤ t) (t1 : t < M0 pc 0) (h : w_X12_workOne_b74 G Q y k t (if 20 ≤ M0 (pc + 2) t then 1 else 0) R) : w_X12_workOne_b42 G Q y k t R := by
  have hY := Y_r hE.2.2.2.2.2.1 hR
  have hw := hE.2.2.2.2.2.2.1
  have hb := B_e hE hR
  have p0 := hE.2.2.2.2.2.2.2.2.1
  have p5 := hE.2.2.2.2.2.2.2.2.2.1
  have n4 := hw.2.1
  have h40 := (hb.2.1 t t0 t1).2.1
  have vt := (hw.2.2.2.1 t t0 t1).2.2.1
  have va := vT_a vt hY.2.2.1
  unfold w_X12_workOne_b42 w_X12_workOne_b73
  refine ⟨fun z => by omega, fun _ v2 e2 _ => ?_⟩
  rw [hR.2.2] at e2
  rw [e2]
  refine p_at p0 p5 t0 (by omega) (fun _ => ⟨by omega, by omega, fun v5 e5 _ => ?_⟩)
  rw [← h40] at e5
  rw [e5]
  refine p_R_isClass (fun a b _ => ⟨fun _ => ?_, fun z => absurd z (by decide)⟩) (fun a _ => ⟨fun z => absurd rfl z, fun _ => ?_⟩)
  · rw [if_neg (by rw [← hY.1] at b; omega)] at h; exact h
  · rw [if_pos (by rw [← hY.1] at a; exact va.1.mpr a)] at h; exact h
theorem r_oneNo {G : Nat → (Int → MM → Prop) → List Int → MM → Prop} {Q : Int → MM → Prop} {R : MM} {y k so l : Int} (hs : R 0 99 = so) (h2 : so ≠ 2) (k7 : k ≠ 7) (k113 : k ≠ 113) (hq : ∀ R', EWr l R R' → R' 0 98 = R 0 98 → R' 0 103 = R 0 103 → R' 0 99 = 4 → R' 0 102 = 0 → Q 0 R') : rOne G y k Q R := by
  unfold rOne w_X12_workOne_b42 w_X12_workOne_b73 w_X12_workOne_b74
  exact fun v7 e7 _ => ⟨fun _ => ⟨fun _ => ⟨fun _ => ⟨fun _ => ⟨fun z => absurd rfl z, fun _ => r_no (l := l) hq⟩, fun z => absurd z k113⟩, fun z => absurd z k7⟩, fun z => absurd rfl z⟩, fun z => by omega⟩
theorem r_one2 {G : Nat → (Int → MM → Prop) → List Int → MM → Prop} {Q : Int → MM → Prop} {c pc : Nat} {M0 R0 R : MM} {p B y k t : Int} (hE : EnvQ c pc M0 R0 p B) (hR : RB0 p R0 R) (t0 : 0 ≤ t) (t1 : t < M0 pc 0) (hs : R 0 99 = 2) (hv : R 0 102 = t) (h : w_X12_workOne_b74 G Q y k t (if 20 ≤ M0 (pc + 2) t then 1 else 0) R) : rOne G y k Q R := by
  have n4 := hE.2.2.2.2.2.2.1.2.1
  unfold rOne
  refine fun v7 e7 _ => ⟨fun z => by omega, fun _ v9 e9 _ => ⟨by unfold ri_; omega, ?_⟩⟩
  rw [e9, hv]
  exact r_b42 hE hR t0 t1 h
def CL1 (M0 : MM) (o d so1 v1 so v : Int) : Prop := ∀ (Q : Int → MM → Prop) (M : MM) (tp : Int), CB M0 M → M 219 6 = tp + 1 → M 220 tp = so1 → M 221 tp = v1 → 0 ≤ tp → tp < 121 → (∀ M1 M', M1 = ux_ M 219 6 tp → Psh tp so v M1 M' → Q 0 M') → w_X4_doOne Q o d M
def RF1 (R0 : MM) (p y k so1 v1 so v : Int) : Prop := ∀ (G : Nat → (Int → MM → Prop) → List Int → MM → Prop) (Q : Int → MM → Prop) (R : MM) (l : Int), RB0 p R0 R → R 0 99 = so1 → R 0 102 = v1 → (∀ R', EWr l R R' → R' 0 98 = R 0 98 → R' 0 103 = R 0 103 → R' 0 99 = so → R' 0 102 = v → Q 0 R') → rOne G y k Q R
theorem CB_u6 {M0 M : MM} (h : CB M0 M) (v : Int) : CB M0 (ux_ M 219 6 v) := ⟨fun k hk => by rw [ux_g _ _ _ (by omega)]; exact h.1 k hk, fun i a b => by rw [ux_i _ _ _ b]; exact h.2 i a b⟩
theorem CL_no {M0 : MM} {o d so1 v1 : Int} (h1 : o = 12 → so1 ≠ 0) (h2 : o = 13 → so1 ≠ 1) (h3 : o ≠ 12 → o ≠ 13 → so1 ≠ 2) : CL1 M0 o d so1 v1 4 0 := fun Q M tp hC h6 hs hv t0 t1 hq =>
  c_one h6 hs hv t0 t1 (fun M5 e5 => ⟨fun a b => absurd b (h1 a), fun a b => absurd b (h2 a), fun a b e => absurd e (h3 a b), fun _ _ _ => p_push (by rw [e5, ux_s]) t0 t1 (fun M' h => hq M5 M' e5 h)⟩)
theorem CL_t {M0 : MM} {o d t so v : Int} (h12 : o ≠ 12) (h13 : o ≠ 13) (ht : ri_ t) (H : ∀ (Q : Int → MM → Prop) (M5 : MM) (tp : Int), CB M0 M5 → M5 219 6 = tp → 0 ≤ tp → tp < 121 → (∀ M', Psh tp so v M5 M' → Q 0 M') → w_X4_lookAt Q o t d M5) : CL1 M0 o d 2 t so v := fun Q M tp hC h6 hs hv t0 t1 hq =>
  c_one h6 hs hv t0 t1 (fun M5 e5 => ⟨fun a => absurd a h12, fun a => absurd a h13, fun _ _ _ => ⟨ht, H _ M5 tp (by rw [e5]; exact CB_u6 hC _) (by rw [e5, ux_s]) t0 t1 (fun M' h => hq M5 M' e5 h)⟩, fun _ _ z => absurd rfl (z h12 h13)⟩)
set_option maxHeartbeats 1600000 in
theorem one_spec {c pc : Nat} {M0 R0 : MM} {p B : Int} {P : CD} {N : MM} {y e so1 v1 : Int} (hE : EnvQ c pc M0 R0 p B) (hK : oneK P N y e) (y0 : 0 ≤ y) (y1 : y < 480) (n70 : ∀ R, RB0 p R0 R → R 70 y = N 70 y) (hk8 : P 1 e = 8 → R0 0 (-3) = 1 ∧ ∀ t, 0 ≤ t → t < M0 pc 0 → M0 (pc + 23) t = R0 47 (400 * p + t)) (hV : VV (M0 pc 0) so1 v1) : ∃ so v, VV (M0 pc 0) so v ∧ CL1 M0 (P 1 e) (P 4 e) so1 v1 so v ∧ RF1 R0 p y (N 66 y) so1 v1 so v := by
  have hY := hE.2.2.2.2.2.1
  have hw := hE.2.2.2.2.2.2.1
  have hb := hE.2.2.2.2.2.2.2.1
  have p0 := hE.2.2.2.2.2.2.2.2.1
  have p5 := hE.2.2.2.2.2.2.2.2.2.1
  have hd := hE.2.2.2.2.2.2.2.2.2.2.1
  have n4 := hw.2.1
  have NO : VV (M0 pc 0) 4 0 := Or.inr (Or.inr (Or.inr (Or.inr ⟨rfl, rfl⟩)))
  by_cases s2 : so1 = 2 ∧ P 1 e ≠ 12 ∧ P 1 e ≠ 13
  · obtain ⟨rfl, ne12, ne13⟩ := s2
    have vt : 0 ≤ v1 ∧ v1 < M0 pc 0 := by
      rcases hV with h | ⟨h, -⟩ | ⟨-, a, b⟩ | ⟨h, -⟩ | ⟨h, -⟩ <;> omega
    obtain ⟨t0, t1⟩ := vt
    obtain ⟨pt1, pt2, vty, pt3, ln0, ln1, -⟩ := hw.2.2.2.1 v1 t0 t1
    have va := vT_a vty hY.2.2.1
    obtain ⟨b1, b2, b3, b4⟩ := hb.2.1 v1 t0 t1
    have rit : ri_ v1 := by unfold ri_; omega
    rcases hK with ⟨h1, h2, h3⟩ | ⟨h1, h2, h3⟩ | ⟨h1, h2⟩ | ⟨h1, h2⟩ | ⟨h1, h2, h3⟩
    · have ho : P 1 e = 7 ∨ P 1 e = 8 ∨ P 1 e = 9 ∨ P 1 e = 10 := by omega
      rw [h3]
      rcases ho with e7 | e8 | e9 | e10
      · refine ⟨0, sz M0 (M0 (pc + 2) v1) (M0 (pc + 3) v1), Or.inl rfl, ?_, ?_⟩
        · rw [e7]
          refine CL_t (by decide) (by decide) rit (fun Q M5 tp hC h6 tp0 tp1 hq => ?_)
          obtain ⟨w1, w2, w3⟩ := q_pic hE hC
          unfold w_X4_lookAt
          refine ⟨pc, w1, w2, t0, by omega, fun v2 e2 _ => ?_⟩
          rw [w3 2 (by omega)] at e2
          have go : ∀ r3 : Int, (r3 = 0 ∨ r3 = 1) → ((7 : Int) = 7 → (∃ c6 : Nat, M5 219 1 = (c6 : Int) ∧ isP c6 ∧ (0 ≤ v1 ∧ v1 < 400 ∧ (∀ v7, v7 = M5 (c6 + 3) v1 → ri_ v7 → w_X10_sizeOf (fun r8 M9 => ri_ r8 → w_X4_push (fun _ M11 => Q 0 M11) 0 r8 M9) v2 v7 M5)))) := fun r3 _ _ => ⟨pc, w1, w2, t0, by omega, fun v7 e7' _ => by
            rw [w3 3 (by omega)] at e7'
            rw [e2, e7']
            refine p_sizeOf (Y_c hY hC) (by rw [hC.1 8 (by omega)]; exact vty) ln0 ln1 (fun _ => ?_)
            have ez : sz M5 (M0 (pc + 2) v1) (M0 (pc + 3) v1) = sz M0 (M0 (pc + 2) v1) (M0 (pc + 3) v1) := by
              unfold sz kA
              rw [hC.1 17 (by omega), hC.1 24 (by omega)]
            rw [ez]
            exact p_push h6 tp0 tp1 hq⟩
          exact p_isArr (fun _ r => ⟨go 1 r, fun z => absurd z (by decide), fun z => absurd z (by decide), fun z => absurd z (by decide), fun z => absurd z (by decide), fun z => absurd rfl z.1⟩) (fun _ r => ⟨go 0 r, fun z => absurd z (by decide), fun z => absurd z (by decide), fun z => absurd z (by decide), fun z => absurd z (by decide), fun z => absurd rfl z.1⟩)
        · rw [e7]
          intro G Q R l hR hs hv hq
          refine r_one2 hE hR t0 t1 hs hv ?_
          unfold w_X12_workOne_b74
          refine ⟨fun _ => ⟨fun _ => ⟨fun _ => ⟨fun _ => ⟨fun z => absurd (by decide) z, fun _ v33 e33 _ => ?_⟩, fun z => absurd z (by decide)⟩, fun z => by omega⟩, fun z => absurd z (by decide)⟩, fun z => absurd z (by decide)⟩
          rw [hR.2.2] at e33
          rw [e33]
          exact p_sizeIn (Y_r hY hR) hw (B_e hE hR) p0 p5 t0 t1 (fun _ => r_giv (l := l) hq)
      · refine ⟨0, M0 (pc + 23) v1, Or.inl rfl, ?_, ?_⟩
        · rw [e8]
          refine CL_t (by decide) (by decide) rit (fun Q M5 tp hC h6 tp0 tp1 hq => ?_)
          obtain ⟨w1, w2, w3⟩ := q_pic hE hC
          unfold w_X4_lookAt
          refine ⟨pc, w1, w2, t0, by omega, fun v2 e2 _ => ?_⟩
          have go : (8 : Int) = 8 → (∃ c13 : Nat, M5 219 1 = (c13 : Int) ∧ isP c13 ∧ (0 ≤ v1 ∧ v1 < 400 ∧ (∀ v14, v14 = M5 (c13 + 23) v1 → ri_ v14 → w_X4_push (fun _ M16 => Q 0 M16) 0 v14 M5))) := fun _ => ⟨pc, w1, w2, t0, by omega, fun v14 e14 _ => by
            rw [w3 23 (by omega)] at e14
            rw [e14]
            exact p_push h6 tp0 tp1 hq⟩
          exact p_isArr (fun _ r => ⟨fun z => absurd z (by decide), go, fun z => absurd z (by decide), fun z => absurd z (by decide), fun z => absurd z (by decide), fun z => absurd rfl z.2.1⟩) (fun _ r => ⟨fun z => absurd z (by decide), go, fun z => absurd z (by decide), fun z => absurd z (by decide), fun z => absurd z (by decide), fun z => absurd rfl z.2.1⟩)
        · have hk := (hk8 e8).2 v1 t0 t1
          rw [e8]
          intro G Q R l hR hs hv hq
          refine r_one2 hE hR t0 t1 hs hv ?_
          unfold w_X12_workOne_b74
          refine ⟨fun _ => ⟨fun _ => ⟨fun _ => ⟨fun _ => ⟨fun _ => ⟨fun z => absurd (by decide) z, fun _ v27 e27 _ => ?_⟩, fun z => absurd z (by decide)⟩, fun z => absurd z (by decide)⟩, fun z => by omega⟩, fun z => absurd z (by decide)⟩, fun z => absurd z (by decide)⟩
          rw [hR.2.2] at e27
          rw [e27]
          refine p_at p0 p5 t0 (by omega) (fun _ => ⟨by omega, by omega, fun v30 e30 _ => ?_⟩)
          rw [(rc40 hE hR t0 t1).2.2.2 (hk8 e8).1, ← hk] at e30
          rw [e30]
          exact r_giv (l := l) hq
      · refine ⟨0, M0 (pc + 5) v1, Or.inl rfl, ?_, ?_⟩
        · rw [e9]
          refine CL_t (by decide) (by decide) rit (fun Q M5 tp hC h6 tp0 tp1 hq => ?_)
          obtain ⟨w1, w2, w3⟩ := q_pic hE hC
          unfold w_X4_lookAt
          refine ⟨pc, w1, w2, t0, by omega, fun v2 e2 _ => ?_⟩
          have go : (9 : Int) = 9 → (∃ c13 : Nat, M5 219 1 = (c13 : Int) ∧ isP c13 ∧ (0 ≤ v1 ∧ v1 < 400 ∧ (∀ v14, v14 = M5 (c13 + 5) v1 → ri_ v14 → w_X4_push (fun _ M16 => Q 0 M16) 0 v14 M5))) := fun _ => ⟨pc, w1, w2, t0, by omega, fun v14 e14 _ => by
            rw [w3 5 (by omega)] at e14
            rw [e14]
            exact p_push h6 tp0 tp1 hq⟩
          exact p_isArr (fun _ r => ⟨fun z => absurd z (by decide), fun z => absurd z (by decide), go, fun z => absurd z (by decide), fun z => absurd z (by decide), fun z => absurd rfl z.2.2.1⟩) (fun _ r => ⟨fun z => absurd z (by decide), fun z => absurd z (by decide), go, fun z => absurd z (by decide), fun z => absurd z (by decide), fun z => absurd rfl z.2.2.1⟩)
        · have hk := hd v1 t0 t1
          rw [e9]
          intro G Q R l hR hs hv hq
          refine r_one2 hE hR t0 t1 hs hv ?_
          unfold w_X12_workOne_b74
          refine ⟨fun _ => ⟨fun _ => ⟨fun _ => ⟨fun _ => ⟨fun _ => ⟨fun _ => ⟨fun z => absurd (by decide) z, fun _ v27 e27 _ => ?_⟩, fun z => absurd z (by decide)⟩, fun z => absurd z (by decide)⟩, fun z => absurd z (by decide)⟩, fun z => by omega⟩, fun z => absurd z (by decide)⟩, fun z => absurd z (by decide)⟩
          rw [hR.2.2] at e27
          rw [e27]
          refine p_at p0 p5 t0 (by omega) (fun _ => ⟨by omega, by omega, fun v30 e30 _ => ?_⟩)
          rw [(rc40 hE hR t0 t1).2.2.1, ← hk] at e30
          rw [e30]
          exact r_giv (l := l) hq
      · by_cases ar : 20 ≤ M0 (pc + 2) v1
        · refine ⟨0, M0 (pc + 3) v1, Or.inl rfl, ?_, ?_⟩
          · rw [e10]
            refine CL_t (by decide) (by decide) rit (fun Q M5 tp hC h6 tp0 tp1 hq => ?_)
            obtain ⟨w1, w2, w3⟩ := q_pic hE hC
            unfold w_X4_lookAt
            refine ⟨pc, w1, w2, t0, by omega, fun v2 e2 _ => ?_⟩
            rw [w3 2 (by omega)] at e2
            refine p_isArr (fun _ r => ⟨fun z => absurd z (by decide), fun z => absurd z (by decide), fun z => absurd z (by decide), fun _ => ⟨fun z => absurd z (by decide), fun _ => ?_⟩, fun z => absurd z (by decide), fun z => absurd rfl z.2.2.2.1⟩) (fun z => by omega)
            unfold w_X4_lookAt_b141 w_X4_lookAt_b160
            refine ⟨fun z => absurd z (by decide), fun _ => ⟨pc, w1, w2, t0, by omega, fun v3 e3 _ => ?_⟩⟩
            rw [w3 3 (by omega)] at e3
            rw [e3]
            exact p_push h6 tp0 tp1 hq
          · rw [e10]
            intro G Q R l hR hs hv hq
            refine r_one2 hE hR t0 t1 hs hv ?_
            rw [if_pos ar]
            unfold w_X12_workOne_b74
            refine ⟨fun _ => ⟨fun _ => ⟨fun _ => ⟨fun _ => ⟨fun _ => ⟨fun _ => ⟨fun _ => ⟨fun z => absurd (by decide) z, fun _ => ⟨fun z => absurd z (by decide), fun _ v15 e15 _ => ?_⟩⟩, fun z => absurd z (by decide)⟩, fun z => absurd z (by decide)⟩, fun z => absurd z (by decide)⟩, fun z => absurd z (by decide)⟩, fun z => by omega⟩, fun z => absurd z (by decide)⟩, fun z => absurd z (by decide)⟩
            rw [hR.2.2] at e15
            rw [e15]
            refine p_at p0 p5 t0 (by omega) (fun _ => ⟨by omega, by omega, fun v18 e18 _ => ?_⟩)
            rw [(rc40 hE hR t0 t1).2.1] at e18
            rw [e18]
            exact r_giv (l := l) hq
        · refine ⟨4, 0, NO, ?_, ?_⟩
          · rw [e10]
            refine CL_t (by decide) (by decide) rit (fun Q M5 tp hC h6 tp0 tp1 hq => ?_)
            obtain ⟨w1, w2, w3⟩ := q_pic hE hC
            unfold w_X4_lookAt
            refine ⟨pc, w1, w2, t0, by omega, fun v2 e2 _ => ?_⟩
            rw [w3 2 (by omega)] at e2
            refine p_isArr (fun z => by omega) (fun _ r => ⟨fun z => absurd z (by decide), fun z => absurd z (by decide), fun z => absurd z (by decide), fun _ => ⟨fun _ => ?_, fun z => absurd rfl z⟩, fun z => absurd z (by decide), fun z => absurd rfl z.2.2.2.1⟩)
            unfold w_X4_lookAt_b141 w_X4_lookAt_b160
            exact ⟨fun _ => p_push h6 tp0 tp1 hq, fun z => absurd rfl z⟩
          · rw [e10]
            intro G Q R l hR hs hv hq
            refine r_one2 hE hR t0 t1 hs hv ?_
            rw [if_neg ar]
            unfold w_X12_workOne_b74
            exact ⟨fun _ => ⟨fun _ => ⟨fun _ => ⟨fun _ => ⟨fun _ => ⟨fun _ => ⟨fun _ => ⟨fun z => absurd (by decide) z, fun _ => ⟨fun _ => r_no (l := l) hq, fun z => absurd rfl z⟩⟩, fun z => absurd z (by decide)⟩, fun z => absurd z (by decide)⟩, fun z => absurd z (by decide)⟩, fun z => absurd z (by decide)⟩, fun z => by omega⟩, fun z => absurd z (by decide)⟩, fun z => absurd z (by decide)⟩
    · -- a field
      rw [h1, h2]
      by_cases ar : 20 ≤ M0 (pc + 2) v1
      · refine ⟨4, 0, NO, ?_, ?_⟩
        · refine CL_t (by decide) (by decide) rit (fun Q M5 tp hC h6 tp0 tp1 hq => ?_)
          obtain ⟨w1, w2, w3⟩ := q_pic hE hC
          unfold w_X4_lookAt
          refine ⟨pc, w1, w2, t0, by omega, fun v2 e2 _ => ?_⟩
          rw [w3 2 (by omega)] at e2
          refine p_isArr (fun _ r => ⟨fun z => absurd z (by decide), fun z => absurd z (by decide), fun z => absurd z (by decide), fun z => absurd z (by decide), fun z => absurd z (by decide), fun _ => ⟨fun z => absurd z (by decide), fun _ => ?_⟩⟩) (fun z => by omega)
          unfold w_X4_lookAt_b204
          exact c_pushSlot hE hC h6 tp0 tp1 t0 t1 (Or.inl ⟨rfl, rfl, rfl⟩) hq
        · intro G Q R l hR hs hv hq
          refine r_one2 hE hR t0 t1 hs hv ?_
          rw [if_pos ar]
          unfold w_X12_workOne_b74
          refine ⟨fun _ => ⟨fun _ => ⟨fun _ => ⟨fun _ => ⟨fun _ => ⟨fun _ => ⟨fun _ => ⟨fun _ => ⟨y0, y1, fun v9 e9 _ => ⟨Or.inr rfl, ?_⟩⟩, fun z => absurd z (by decide)⟩, fun z => absurd z (by decide)⟩, fun z => absurd z (by decide)⟩, fun z => absurd z (by decide)⟩, fun z => absurd z (by decide)⟩, fun z => by omega⟩, fun z => absurd z (by decide)⟩, fun z => absurd z (by decide)⟩
          unfold w_X12_workField w_X12_workField_b25 w_X12_workField_b27
          refine ⟨fun z => absurd z (by decide), fun _ => ⟨1, ?_⟩⟩
          show wb_X12_workField_b27 (fun _ M11 => Q 0 M11) _ v1 v9 (-1) (-1) R
          unfold wb_X12_workField_b27 w_X12_workField_b121
          exact ⟨fun _ => ⟨fun z => absurd rfl z, fun _ => r_no (l := l) hq⟩, fun z => absurd rfl z⟩
      · have cl := va.2.mp (by omega)
        have pcnE : pcn M0 pc v1 = M0 16 (M0 (pc + 2) v1) := by unfold pcn so; rw [if_neg ar]
        obtain ⟨j, hj⟩ : ∃ j, slN M0 (M0 (pc + 2) v1) (P 4 e) j := by
          by_cases h : ∃ v, 0 ≤ v ∧ v < M0 16 (M0 (pc + 2) v1) ∧ M0 23 (96 * M0 (pc + 2) v1 + v) = P 4 e
          · obtain ⟨v, a1, a2, a3, a4⟩ := lastM (p := fun v => M0 23 (96 * M0 (pc + 2) v1 + v) = P 4 e) (M0 16 (M0 (pc + 2) v1)).toNat (by obtain ⟨v, a, b, d⟩ := h; exact ⟨v, a, by omega, d⟩)
            exact ⟨v, Or.inr ⟨a1, by omega, a3, fun i i0 i1 => a4 i i0 (by omega)⟩⟩
          · exact ⟨-1, Or.inl ⟨rfl, fun i i0 i1 e => h ⟨i, i0, i1, e⟩⟩⟩
        obtain ⟨so, v, hVV, hjs⟩ : ∃ so v, VV (M0 pc 0) so v ∧ ((j = -1 ∧ so = 4 ∧ v = 0) ∨ (0 ≤ j ∧ j < pcn M0 pc v1 ∧ sVal M0 pc v1 j so v)) := by
          rcases id hj with ⟨rfl, -⟩ | ⟨j0, j1, -⟩
          · exact ⟨4, 0, NO, Or.inl ⟨rfl, rfl, rfl⟩⟩
          · obtain ⟨so, v, a, b⟩ := sVal_ex hY hw t0 t1 j0 (by rw [pcnE]; exact j1)
            exact ⟨so, v, a, Or.inr ⟨j0, by rw [pcnE]; exact j1, b⟩⟩
        refine ⟨so, v, hVV, ?_, ?_⟩
        · refine CL_t (by decide) (by decide) rit (fun Q M5 tp hC h6 tp0 tp1 hq => ?_)
          obtain ⟨w1, w2, w3⟩ := q_pic hE hC
          unfold w_X4_lookAt
          refine ⟨pc, w1, w2, t0, by omega, fun v2 e2 _ => ?_⟩
          rw [w3 2 (by omega)] at e2
          refine p_isArr (fun z => by omega) (fun _ r => ⟨fun z => absurd z (by decide), fun z => absurd z (by decide), fun z => absurd z (by decide), fun z => absurd z (by decide), fun z => absurd z (by decide), fun _ => ⟨fun _ => ?_, fun z => absurd rfl z⟩⟩)
          rw [e2]
          refine p_slotNm (Y_c hY hC) cl.1 (by rw [hC.1 8 (by omega)]; exact cl.2) (fun i hi _ => ?_)
          have hi' : slN M0 (M0 (pc + 2) v1) (P 4 e) i := by
            unfold slN at hi ⊢
            rw [hC.1 16 (by omega), hC.1 23 (by omega)] at hi
            exact hi
          rw [slN_un hi' hj]
          unfold w_X4_lookAt_b204
          exact c_pushSlot hE hC h6 tp0 tp1 t0 t1 hjs hq
        · intro G Q R l hR hs hv hq
          refine r_one2 hE hR t0 t1 hs hv ?_
          rw [if_neg ar]
          unfold w_X12_workOne_b74
          refine ⟨fun _ => ⟨fun _ => ⟨fun _ => ⟨fun _ => ⟨fun _ => ⟨fun _ => ⟨fun _ => ⟨fun _ => ⟨y0, y1, fun v9 e9 _ => ⟨Or.inl rfl, ?_⟩⟩, fun z => absurd z (by decide)⟩, fun z => absurd z (by decide)⟩, fun z => absurd z (by decide)⟩, fun z => absurd z (by decide)⟩, fun z => absurd z (by decide)⟩, fun z => by omega⟩, fun z => absurd z (by decide)⟩, fun z => absurd z (by decide)⟩
          rw [n70 _ hR] at e9
          unfold w_X12_workField w_X12_workField_b25
          refine ⟨fun _ v2 e2 _ => ?_, fun z => absurd rfl z⟩
          rw [hR.2.2] at e2
          rw [e2]
          refine p_at p0 p5 t0 (by omega) (fun _ => ⟨by omega, by omega, fun v5 e5 _ => ?_⟩)
          rw [(rc40 hE hR t0 t1).1] at e5
          rw [e5, e9]
          refine p_R_wfF (Y_r hY hR) cl.1 cl.2 h3 (fun h0 => ?_) (fun f f0 f1 f22 hf e14 e12 => ?_)
          · have := slN_un h0 hj
            rcases hjs with ⟨-, rfl, rfl⟩ | ⟨z, -⟩
            · unfold w_X12_workField_b121
              exact ⟨fun z => absurd rfl z, fun _ => r_no (l := l) hq⟩
            · omega
          · have ej := slN_un hf hj
            rcases hjs with ⟨z, -⟩ | ⟨j0, j1, hsv⟩
            · omega
            · have sv := r_slotV (l := l) hE hR t0 t1 j0 j1 hsv hq
              have kk : kA M0 (M0 (pc + 2) v1) j = R 12 f := by
                unfold kA
                rw [if_neg (by omega), if_neg ar, ← ej]
                exact e12
              unfold w_X12_workField_b121
              refine ⟨fun _ => ⟨f0, f1, fun v2' e2' _ => ⟨fun z => fun v4 e4 _ => ⟨f0, f1, fun v5' e5' _ => ?_⟩, fun z => fun v4 e4 _ => ⟨f0, f1, fun v5' e5' _ => ?_⟩⟩⟩, fun z => by omega⟩
              · rw [e4, hR.2.2, e5', ← e14, ej]; exact sv.1 (by rw [kk, ← e2']; exact z)
              · rw [e4, hR.2.2, e5', ← e14, ej]; exact sv.2 (by rw [kk, ← e2']; exact z)
    · exact absurd h1 ne12
    · exact absurd h1 ne13
    · -- is
      rw [h1, h2]
      obtain ⟨z, z01, hz⟩ : ∃ z : Int, (z = 0 ∨ z = 1) ∧ (z = 1 ↔ M0 (pc + 2) v1 < 20 ∧ isN M0 (M0 (pc + 2) v1) (P 4 e)) := by
        by_cases h : M0 (pc + 2) v1 < 20 ∧ isN M0 (M0 (pc + 2) v1) (P 4 e)
        · exact ⟨1, Or.inr rfl, ⟨fun _ => h, fun _ => rfl⟩⟩
        · exact ⟨0, Or.inl rfl, ⟨fun q => absurd q (by decide), fun q => absurd q h⟩⟩
      refine ⟨1, z, Or.inr (Or.inl ⟨rfl, z01⟩), ?_, ?_⟩
      · refine CL_t (by decide) (by decide) rit (fun Q M5 tp hC h6 tp0 tp1 hq => ?_)
        obtain ⟨w1, w2, w3⟩ := q_pic hE hC
        unfold w_X4_lookAt
        refine ⟨pc, w1, w2, t0, by omega, fun v2 e2 _ => ?_⟩
        rw [w3 2 (by omega)] at e2
        have go : (14 : Int) = 14 → w_X10_isNamed (fun r25 M26 => (r25 = 0 ∨ r25 = 1) → w_X4_pushTruth (fun _ M28 => Q 0 M28) r25 M26) v2 (P 4 e) M5 := fun _ => by
          rw [e2]
          refine p_isNamed (Y_c hY hC) (by rw [hC.1 8 (by omega)]; exact vty) (fun a b _ => ?_) (fun a _ => ?_)
          · have : z = 1 := hz.mpr ⟨a, (isN_c hC _ _).mp b⟩
            rw [← this]
            exact p_pushT h6 tp0 tp1 z01 hq
          · have : z = 0 := by
              rcases z01 with y | y
              · exact y
              · exact absurd ⟨(hz.mp y).1, (isN_c hC _ _).mpr (hz.mp y).2⟩ a
            subst this
            exact p_pushT h6 tp0 tp1 (Or.inl rfl) hq
        exact p_isArr (fun _ r => ⟨fun z => absurd z (by decide), fun z => absurd z (by decide), fun z => absurd z (by decide), fun z => absurd z (by decide), go, fun z => absurd rfl z.2.2.2.2⟩) (fun _ r => ⟨fun z => absurd z (by decide), fun z => absurd z (by decide), fun z => absurd z (by decide), fun z => absurd z (by decide), go, fun z => absurd rfl z.2.2.2.2⟩)
      · intro G Q R l hR hs hv hq
        refine r_one2 hE hR t0 t1 hs hv ?_
        unfold w_X12_workOne_b74
        refine ⟨fun _ => ⟨fun _ => ⟨fun _ => ⟨fun z => absurd rfl z, fun _ => ?_⟩, fun z => by omega⟩, fun z => absurd z (by decide)⟩, fun z => absurd z (by decide)⟩
        have fls : z = 0 → w_X12_workOne_b207 G Q R := fun e => by
          unfold w_X12_workOne_b207 w_X12_workOne_b208
          rw [e] at hq
          exact ⟨Or.inl rfl, r_tru (l := l) (Or.inl rfl) hq⟩
        by_cases ar : 20 ≤ M0 (pc + 2) v1
        · rw [if_pos ar]
          refine ⟨fun _ => fls ?_, fun q => absurd q (by decide)⟩
          rcases z01 with y | y
          · exact y
          · have := (hz.mp y).1; omega
        · rw [if_neg ar]
          refine ⟨fun q => absurd rfl q, fun _ v39 e39 _ => ?_⟩
          rw [hR.2.2] at e39
          rw [e39]
          have cl := va.2.mp (by omega)
          refine p_at p0 p5 t0 (by omega) (fun _ => ⟨by omega, by omega, fun v42 e42 _ => ⟨y0, y1, fun v43 e43 _ => ?_⟩⟩)
          rw [(rc40 hE hR t0 t1).1] at e42
          rw [n70 _ hR] at e43
          rw [e42, e43]
          refine p_R_isNm (Y_r hY hR) cl.1 cl.2 h3 (fun a _ => ⟨fun q => absurd q (by decide), fun _ => ?_⟩) (fun a _ => ⟨fun _ => fls ?_, fun q => absurd rfl q⟩)
          · have : z = 1 := hz.mpr ⟨by omega, a⟩
            rw [this] at hq
            unfold w_X12_workOne_b208
            exact ⟨Or.inr rfl, r_tru (l := l) (Or.inr rfl) hq⟩
          · rcases z01 with y | y
            · exact y
            · exact absurd (hz.mp y).2 a
  · by_cases n12 : P 1 e = 12 ∧ so1 = 0
    · obtain ⟨a1, rfl⟩ := n12
      have k113 : N 66 y = 113 := by
        rcases hK with ⟨h1, h2, h3⟩ | ⟨h1, h2, h3⟩ | ⟨h1, h2⟩ | ⟨h1, h2⟩ | ⟨h1, h2, h3⟩ <;> omega
      refine ⟨0, w64 (-v1), Or.inl rfl, ?_, ?_⟩
      · rw [a1]
        exact fun Q M tp hC h6 hs hv t0 t1 hq => c_one h6 hs hv t0 t1 (fun M5 e5 => ⟨fun _ _ => p_push (by rw [e5, ux_s]) t0 t1 (fun M' h => hq M5 M' e5 h), fun a => absurd a (by decide), fun a => absurd rfl a, fun a => absurd rfl (a rfl)⟩)
      · rw [k113]
        intro G Q R l hR hs hv hq
        unfold rOne w_X12_workOne_b42 w_X12_workOne_b73 w_X12_workOne_b74
        exact fun v7 e7 _ => ⟨fun _ => ⟨fun _ => ⟨fun _ => ⟨fun z => absurd rfl z, fun _ v49 e49 _ => ⟨fun z => by omega, fun _ v53 e53 _ => r_giv (l := l) (fun R' b1 b2 b3 b4 b5 => hq R' b1 b2 b3 b4 (by rw [b5, e53, hv]))⟩⟩, fun z => absurd z (by decide)⟩, fun z => absurd rfl z⟩, fun z => by omega⟩
    · by_cases n13 : P 1 e = 13 ∧ so1 = 1
      · obtain ⟨a1, rfl⟩ := n13
        have k7 : N 66 y = 7 := by
          rcases hK with ⟨h1, h2, h3⟩ | ⟨h1, h2, h3⟩ | ⟨h1, h2⟩ | ⟨h1, h2⟩ | ⟨h1, h2, h3⟩ <;> omega
        have zz : (if v1 = 0 then (1 : Int) else 0) = 0 ∨ (if v1 = 0 then (1 : Int) else 0) = 1 := by split <;> omega
        refine ⟨1, if v1 = 0 then 1 else 0, Or.inr (Or.inl ⟨rfl, zz⟩), ?_, ?_⟩
        · rw [a1]
          exact fun Q M tp hC h6 hs hv t0 t1 hq => c_one h6 hs hv t0 t1 (fun M5 e5 => ⟨fun a => absurd a (by decide), fun _ _ => p_pushT (by rw [e5, ux_s]) t0 t1 zz (fun M' h => hq M5 M' e5 h), fun _ a => absurd rfl a, fun _ a => absurd rfl (a rfl)⟩)
        · rw [k7]
          intro G Q R l hR hs hv hq
          unfold rOne w_X12_workOne_b42 w_X12_workOne_b73 w_X12_workOne_b74 w_X12_workOne_b105
          refine fun v7 e7 _ => ⟨fun _ => ⟨fun _ => ⟨fun z => absurd rfl z, fun _ v56 e56 _ => ⟨fun z => by omega, fun _ v60 e60 _ => ?_⟩⟩, fun z => absurd rfl z⟩, fun z => by omega⟩
          rw [hv] at e60
          refine ⟨fun z => ⟨Or.inl rfl, ?_⟩, fun z => ⟨Or.inr rfl, ?_⟩⟩
          · rw [if_neg (by omega)] at hq; exact r_tru (l := l) (Or.inl rfl) hq
          · rw [if_pos (by omega)] at hq; exact r_tru (l := l) (Or.inr rfl) hq
      · refine ⟨4, 0, NO, CL_no (fun a b => n12 ⟨a, b⟩) (fun a b => n13 ⟨a, b⟩) (fun a b d => s2 ⟨d, a, b⟩), ?_⟩
        intro G Q R l hR hs hv hq
        by_cases k7 : N 66 y = 7
        · have o13 : P 1 e = 13 := by
            rcases hK with ⟨h1, h2, h3⟩ | ⟨h1, h2, h3⟩ | ⟨h1, h2⟩ | ⟨h1, h2⟩ | ⟨h1, h2, h3⟩ <;> omega
          have so : so1 ≠ 1 := fun z => n13 ⟨o13, z⟩
          rw [k7]
          have b74 : ∀ t s0, w_X12_workOne_b74 G Q y 7 t s0 R := fun t s0 => by
            unfold w_X12_workOne_b74
            exact ⟨fun z => absurd rfl z, fun _ v56 e56 _ => ⟨fun _ => r_no (l := l) hq, fun z => by omega⟩⟩
          by_cases e2 : so1 = 2
          · subst e2
            have vt : 0 ≤ v1 ∧ v1 < M0 pc 0 := by
              rcases hV with h | ⟨h, -⟩ | ⟨-, a, b⟩ | ⟨h, -⟩ | ⟨h, -⟩ <;> omega
            exact r_one2 hE hR vt.1 vt.2 hs hv (b74 _ _)
          · unfold rOne w_X12_workOne_b42 w_X12_workOne_b73
            exact fun v7 e7 _ => ⟨fun _ => ⟨fun _ => b74 _ _, fun z => absurd rfl z⟩, fun z => by omega⟩
        · by_cases k113 : N 66 y = 113
          · have o12 : P 1 e = 12 := by
              rcases hK with ⟨h1, h2, h3⟩ | ⟨h1, h2, h3⟩ | ⟨h1, h2⟩ | ⟨h1, h2⟩ | ⟨h1, h2, h3⟩ <;> omega
            have so : so1 ≠ 0 := fun z => n12 ⟨o12, z⟩
            rw [k113]
            have b74 : ∀ t s0, w_X12_workOne_b74 G Q y 113 t s0 R := fun t s0 => by
              unfold w_X12_workOne_b74
              exact ⟨fun _ => ⟨fun z => absurd rfl z, fun _ v49 e49 _ => ⟨fun _ => r_no (l := l) hq, fun z => by omega⟩⟩, fun z => absurd z (by decide)⟩
            by_cases e2 : so1 = 2
            · subst e2
              have vt : 0 ≤ v1 ∧ v1 < M0 pc 0 := by
                rcases hV with h | ⟨h, -⟩ | ⟨-, a, b⟩ | ⟨h, -⟩ | ⟨h, -⟩ <;> omega
              exact r_one2 hE hR vt.1 vt.2 hs hv (b74 _ _)
            · unfold rOne w_X12_workOne_b42 w_X12_workOne_b73
              exact fun v7 e7 _ => ⟨fun _ => ⟨fun _ => b74 _ _, fun z => absurd rfl z⟩, fun z => by omega⟩
          · have s2' : so1 ≠ 2 := fun z => s2 ⟨z, fun q => k113 (by rcases hK with ⟨h1, h2, h3⟩ | ⟨h1, h2, h3⟩ | ⟨h1, h2⟩ | ⟨h1, h2⟩ | ⟨h1, h2, h3⟩ <;> omega), fun q => k7 (by rcases hK with ⟨h1, h2, h3⟩ | ⟨h1, h2, h3⟩ | ⟨h1, h2⟩ | ⟨h1, h2⟩ | ⟨h1, h2, h3⟩ <;> omega)⟩
            exact r_oneNo (l := l) hs s2' k7 k113 hq
