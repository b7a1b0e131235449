/-! questions worked out: two values, closed -/
def rPt (G : Nat → (Int → MM → Prop) → List Int → MM → Prop) (Q : Int → MM → Prop) (s0 : Int) (M3 : MM) : Prop := (s0 = (-1) → w_X12_workPart_b115 G Q s0 M3) ∧ (¬ s0 = (-1) → (∀ v7, v7 = M3 0 97 → ri_ v7 → w_X12_at (fun r8 M9 => ri_ r8 → 0 ≤ r8 ∧ r8 < 2000 ∧ (∀ v10, v10 = M9 40 r8 → ri_ v10 → w_X12_isClass (fun r11 M12 => (r11 = 0 ∨ r11 = 1) → (¬ r11 = 0 → w_X12_workPart_b115 G Q s0 M12) ∧ (r11 = 0 → (∀ v14, v14 = M12 0 99 → ri_ v14 → (¬ v14 = 0 → w_X12_workPart_b115 G Q s0 M12) ∧ (v14 = 0 → (∀ v16, v16 = M12 0 102 → rl_ v16 → (v16 < 0 → w_X12_workPart_b115 G Q s0 M12) ∧ (¬ v16 < 0 → (∀ v18, v18 = M12 0 102 → rl_ v18 → (∀ v19, v19 = M12 0 97 → ri_ v19 → w_X12_at (fun r20 M21 => ri_ r20 → 0 ≤ r20 ∧ r20 < 2000 ∧ (∀ v22, v22 = M21 41 r20 → ri_ v22 → (v22 ≤ v18 → w_X12_workPart_b115 G Q s0 M21) ∧ (¬ v22 ≤ v18 → w_X12_workPart_b116 G Q s0 1 M21))) v19 s0 M12)))))))) v10 M9)) v7 s0 M3))
theorem part_spec {c pc : Nat} {M0 R0 : MM} {p B : Int} {so1 v1 so2 v2 : Int} (hE : EnvQ c pc M0 R0 p B) (hV1 : VV (M0 pc 0) so1 v1) : ∃ so v, VV (M0 pc 0) so v ∧ CL2 M0 15 so1 v1 so2 v2 so v ∧ ∀ (G : Nat → (Int → MM → Prop) → List Int → MM → Prop) (Q : Int → MM → Prop) (R : MM) (l : Int), RB0 p R0 R → R 0 99 = so2 → R 0 102 = v2 → (∀ R', EWr l R R' → R' 0 98 = R 0 98 → R' 0 103 = R 0 103 → R' 0 99 = so → R' 0 102 = v → Q 0 R') → rPt G Q (if so1 = 2 then v1 else -1) R := by
  have hY := hE.2.2.2.2.2.1
  have hw := hE.2.2.2.2.2.2.1
  have hb := hE.2.2.2.2.2.2.2.1
  have p0 := hE.2.2.2.2.2.2.2.2.1
  have p5 := hE.2.2.2.2.2.2.2.2.2.1
  have n4 := hw.2.1
  have NO : VV (M0 pc 0) 4 0 := Or.inr (Or.inr (Or.inr (Or.inr ⟨rfl, rfl⟩)))
  by_cases s2 : so1 = 2
  rotate_left
  · refine ⟨4, 0, NO, fun Q M tp hC h6 d1 d2 d3 d4 t0 t1 hq => ?_, fun G Q R l hR hs hv hq => ?_⟩
    · exact c_two h6 d1 d2 d3 d4 t0 t1 (fun M5 e5 => ⟨fun y => by omega, fun _ _ _ => p_push (by rw [e5, ux_s]) t0 (by omega) (fun M' h => hq M5 M' e5 h), fun _ _ y => absurd y s2, fun _ _ _ => p_push (by rw [e5, ux_s]) t0 (by omega) (fun M' h => hq M5 M' e5 h), fun y => absurd rfl y, fun y => absurd rfl y⟩)
    · rw [if_neg s2]
      unfold rPt w_X12_workPart_b115 w_X12_workPart_b116
      exact ⟨fun _ => ⟨fun z => absurd rfl z, fun _ => r_no (l := l) hq⟩, fun z => absurd rfl z⟩
  subst s2
  have vt : 0 ≤ v1 ∧ v1 < M0 pc 0 := by
    rcases hV1 with h | ⟨h, -⟩ | ⟨-, a, b⟩ | ⟨h, -⟩ | ⟨h, -⟩ <;> omega
  obtain ⟨t0', t1'⟩ := vt
  obtain ⟨pt1, pt2, vty, pt3, ln0, ln1, -⟩ := hw.2.2.2.1 v1 t0' t1'
  have va := vT_a vty hY.2.2.1
  obtain ⟨b1, b2, b3, b4⟩ := hb.2.1 v1 t0' t1'
  by_cases ok : 20 ≤ M0 (pc + 2) v1 ∧ so2 = 0 ∧ 0 ≤ v2 ∧ v2 < M0 (pc + 3) v1
  · obtain ⟨ar, rfl, v20, v21⟩ := ok
    have pcnE : pcn M0 pc v1 = M0 (pc + 3) v1 := by unfold pcn so; rw [if_pos ar]
    obtain ⟨so, v, hVV, hsv⟩ := sVal_ex hY hw t0' t1' v20 (by rw [pcnE]; exact v21)
    refine ⟨so, v, hVV, fun Q M tp hC h6 d1 d2 d3 d4 t0 t1 hq => ?_, fun G Q R l hR hs hv hq => ?_⟩
    · refine c_two h6 d1 d2 d3 d4 t0 t1 (fun M5 e5 => ⟨fun y => by omega, fun _ _ y => absurd rfl y, fun _ _ _ => ⟨by unfold ri_; omega, ?_⟩, fun _ _ y => absurd rfl y, fun y => absurd rfl y, fun y => absurd rfl y⟩)
      have hC5 : CB M0 M5 := by rw [e5]; exact CB_u6 hC _
      obtain ⟨w1, w2, w3⟩ := q_pic hE hC5
      unfold w_X4_pushElement
      refine ⟨pc, w1, w2, t0', by omega, fun x2 e2 _ => ?_⟩
      rw [w3 2 (by omega)] at e2
      refine p_isArr (fun _ _ => ⟨fun y => absurd y (by decide), fun _ => ⟨fun y => by omega, fun _ => ⟨pc, w1, w2, t0', by omega, fun x8 e8 _ => ?_⟩⟩⟩) (fun y => by omega)
      rw [w3 3 (by omega)] at e8
      refine ⟨fun y => by omega, fun _ => ?_⟩
      unfold w_X4_pushElement_b41 w_X4_pushElement_b56
      exact ⟨fun y => absurd y (by decide), fun _ => ⟨by unfold ri_; omega, c_pushSlot hE hC5 (by rw [e5, ux_s]) t0 (by omega) t0' t1' (Or.inr ⟨v20, by rw [pcnE]; exact v21, hsv⟩) (fun M' h => hq M5 M' e5 h)⟩⟩
    · rw [if_pos rfl]
      have sv := r_slotV (l := l) hE hR t0' t1' v20 (by rw [pcnE]; exact v21) hsv hq
      unfold rPt
      refine ⟨fun z => by omega, fun _ w7 e7 _ => ?_⟩
      rw [e7, hR.2.2]
      refine p_at p0 p5 t0' (by omega) (fun _ => ⟨by omega, by omega, fun w10 e10 _ => ?_⟩)
      rw [(rc40 hE hR t0' t1').1] at e10
      rw [e10]
      have hYR := Y_r hY hR
      refine p_R_isClass (fun a b => absurd (va.1.mp ar) (by rw [← hYR.1] at b; exact fun q => q ⟨a, b⟩)) (fun a _ => ⟨fun z => absurd rfl z, fun _ w14 e14 _ => ⟨fun z => by omega, fun _ w16 e16 _ => ⟨fun z => by omega, fun _ w18 e18 _ w19 e19 _ => ?_⟩⟩⟩)
      rw [e19, hR.2.2]
      refine p_at p0 p5 t0' (by omega) (fun _ => ⟨by omega, by omega, fun w22 e22 _ => ?_⟩)
      rw [(rc40 hE hR t0' t1').2.1] at e22
      refine ⟨fun z => by omega, fun _ => ?_⟩
      unfold w_X12_workPart_b116
      refine ⟨fun _ x2 y2 _ x3 y3 _ => ⟨by unfold ri_; omega, ?_⟩, fun z => absurd z (by decide)⟩
      rw [y2, hR.2.2, y3, hv]
      refine p_linksIn hYR hw (B_e hE hR) p0 p5 t0' t1' v20 (by rw [pcnE]; exact v21) (fun kk _ => ⟨fun z => absurd z (by decide), fun _ x15 y15 _ x16 y16 _ => ⟨by unfold ri_; omega, ?_⟩⟩) (fun kk _ => ⟨fun _ x8 y8 _ x9 y9 _ => ⟨by unfold ri_; omega, ?_⟩, fun z => absurd rfl z⟩)
      · rw [y15, hR.2.2, y16, hv]; exact sv.2 kk
      · rw [y8, hR.2.2, y9, hv]; exact sv.1 kk
  · refine ⟨4, 0, NO, fun Q M tp hC h6 d1 d2 d3 d4 t0 t1 hq => ?_, fun G Q R l hR hs hv hq => ?_⟩
    · refine c_two h6 d1 d2 d3 d4 t0 t1 (fun M5 e5 => ⟨fun y => by omega, fun _ _ _ => p_push (by rw [e5, ux_s]) t0 (by omega) (fun M' h => hq M5 M' e5 h), fun _ s20 _ => ⟨by unfold ri_; omega, ?_⟩, fun _ _ y => absurd rfl y, fun y => absurd rfl y, fun y => absurd rfl y⟩)
      have hC5 : CB M0 M5 := by rw [e5]; exact CB_u6 hC _
      obtain ⟨w1, w2, w3⟩ := q_pic hE hC5
      have b40 : w_X4_pushElement_b40 (fun _ M => Q 0 M) v1 v2 M5 := by
        unfold w_X4_pushElement_b40 w_X4_pushElement_b41 w_X4_pushElement_b56
        exact ⟨fun _ => c_pushSlot hE hC5 (by rw [e5, ux_s]) t0 (by omega) t0' t1' (Or.inl ⟨rfl, rfl, rfl⟩) (fun M' h => hq M5 M' e5 h), fun y => absurd rfl y⟩
      unfold w_X4_pushElement
      refine ⟨pc, w1, w2, t0', by omega, fun x2 e2 _ => ?_⟩
      rw [w3 2 (by omega)] at e2
      refine p_isArr (fun ar _ => ⟨fun y => absurd y (by decide), fun _ => ⟨fun _ => b40, fun y => ⟨pc, w1, w2, t0', by omega, fun x8 e8 _ => ?_⟩⟩⟩) (fun _ _ => ⟨fun _ => b40, fun y => absurd rfl y⟩)
      rw [w3 3 (by omega)] at e8
      exact ⟨fun _ => b40, fun y2 => absurd ⟨by omega, s20, by omega, by omega⟩ ok⟩
    · rw [if_pos rfl]
      have no : w_X12_workPart_b115 G Q v1 R := by
        unfold w_X12_workPart_b115 w_X12_workPart_b116
        exact ⟨fun z => absurd rfl z, fun _ => r_no (l := l) hq⟩
      unfold rPt
      refine ⟨fun z => by omega, fun _ w7 e7 _ => ?_⟩
      rw [e7, hR.2.2]
      refine p_at p0 p5 t0' (by omega) (fun _ => ⟨by omega, by omega, fun w10 e10 _ => ?_⟩)
      rw [(rc40 hE hR t0' t1').1] at e10
      rw [e10]
      have hYR := Y_r hY hR
      refine p_R_isClass (fun a b _ => ⟨fun _ => no, fun z => absurd z (by decide)⟩) (fun a _ => ⟨fun z => absurd rfl z, fun _ w14 e14 _ => ⟨fun _ => no, fun z14 w16 e16 _ => ⟨fun _ => no, fun z16 w18 e18 _ w19 e19 _ => ?_⟩⟩⟩)
      rw [e19, hR.2.2]
      refine p_at p0 p5 t0' (by omega) (fun _ => ⟨by omega, by omega, fun w22 e22 _ => ?_⟩)
      rw [(rc40 hE hR t0' t1').2.1] at e22
      refine ⟨fun _ => no, fun z22 => absurd ⟨va.1.mpr (by rw [← hYR.1] at a; exact a), by omega, by omega, by omega⟩ ok⟩
set_option maxHeartbeats 1600000 in
theorem Sem_2 : Clo2 Sem := by
  intro P N s sf fo it y a e1 e2 lo hi x1 lo1 hi1 x2 lo2 hi2 hS1 hS2 hK h67 h68 l1 h1 l2 h2 l3 h3 hsz
  obtain ⟨q1, q2, q3, q4, q5, q6⟩ := hS1
  obtain ⟨r1, r2, r3, r4, r5, r6⟩ := hS2
  have ho : 15 ≤ P 1 e2 ∧ P 1 e2 ≤ 26 := by rcases hK with ⟨w1, w2⟩ | ⟨w1, w2, w3⟩ <;> omega
  refine ⟨by omega, by omega, l1, h1, fun i i0 i1 e8 => ?_, fun c pc M0 R0 p B vr iv hE a0 b5 lo0 h480 hc hn hu hv => ?_⟩
  · by_cases z : i < e1
    · obtain ⟨j, j0, j1, j2⟩ := q5 i i0 z e8
      exact ⟨j, by omega, by omega, j2⟩
    · by_cases z2 : i < e2
      · obtain ⟨j, j0, j1, j2⟩ := r5 i (by omega) z2 e8
        exact ⟨j, by omega, by omega, j2⟩
      · have : i = e2 := by omega
        subst this; omega
  obtain ⟨so1, v1, c1, hV1, hc1, hC1, hR1⟩ := q6 c pc M0 R0 p B vr iv hE a0 (by omega) (by omega) (by omega) (fun j i j0 j4 i0 i1 => hc j i j0 j4 i0 (by omega)) (nAg_s hn (by omega) (by omega)) ⟨fun i i0 i1 => hu.1 i i0 (by omega), fun i i0 i1 => hu.2 i i0 (by omega)⟩ hv
  obtain ⟨so2, v2, c2, hV2, hc2, hC2, hR2⟩ := r6 c pc M0 R0 p B vr iv hE (by omega) (by omega) (by omega) (by omega) (fun j i j0 j4 i0 i1 => hc j i j0 j4 (by omega) (by omega)) (nAg_s hn (by omega) (by omega)) ⟨fun i i0 i1 => hu.1 i (by omega) (by omega), fun i i0 i1 => hu.2 i (by omega) (by omega)⟩ hv
  have fin : ∀ so v, VV (M0 pc 0) so v → CL2 M0 (P 1 e2) so1 v1 so2 v2 so v → RRun R0 p s it vr iv y (hi - lo) so v (c1 + c2 + 1) → ∃ so v cost, VV (M0 pc 0) so v ∧ 1 ≤ cost ∧ CRun c pc M0 B s sf fo it vr iv a (e2 + 1) (hi - lo) so v cost ∧ RRun R0 p s it vr iv y (hi - lo) so v cost := fun so v hV hCL hRR => by
    refine ⟨so, v, c1 + c2 + 1, hV, by omega, fun K X hK' t M tp m hC hSI h6 t0 t1 hm m0 m1 hcv ht hq hx => ?_, hRR⟩
    refine hC1 K X hK' t M tp m hC hSI h6 t0 (by omega) hm m0 m1 hcv ht (fun hc30 t1' M1 ht1 hF1 hS1 h61 hs1 hv1 hm1 => ?_) (fun z => hx (by omega))
    have hCB1 := CB_F hC hF1
    refine hC2 K X hK' t1' M1 (tp + 1) (m + c1) hCB1 hS1 h61 (by omega) (by omega) hm1 (by omega) (by omega) (CV_F hcv hv hF1) (by omega) (fun hc31 t2' M2 ht2 hF2 hS2 h62 hs2 hv2 hm2 => ?_) (fun z => hx (by omega))
    have hCB2 := CB_F hCB1 hF2
    obtain ⟨t2', rfl⟩ : ∃ t', t2' = t' + 1 := ⟨t2' - 1, by omega⟩
    refine K_op (o := P 1 e2) hE hK' hCB2 hm2 (by omega) hc31 (by omega) (by omega) (hc 1 e2 (by omega) (by omega) (by omega) (by omega)) (by omega) (fun M6 e6 => ?_)
    obtain ⟨f6, s6, m6, i6, o6⟩ := mt1 (tp := tp) (fo := fo) hS2 hm2 e6
    have b50 := hE.2.2.2.2.1
    unfold w_X4_execute_b26
    refine ⟨fun _ => ⟨fun _ => ⟨fun z => by omega, fun _ => ?_⟩, fun z => by omega⟩, fun z => by omega⟩
    refine hCL _ M6 tp (CB_F hCB2 f6) (by rw [i6 6 (by decide), h62]; omega) (by rw [o6 220 (by decide), (hF2.2.2.1 tp (by omega)).1]; exact hs1) (by rw [o6 221 (by decide), (hF2.2.2.1 tp (by omega)).2]; exact hv1) (by rw [o6 220 (by decide)]; exact hs2) (by rw [o6 221 (by decide)]; exact hv2) t0 (by omega) (fun M7 M' e7 hM => ⟨by unfold ri_; omega, fun _ => ?_⟩)
    obtain ⟨f7, s7, t7, i7, o7⟩ := topF (tp := tp) (fo := fo) s6 e7
    obtain ⟨g1, g2, g3, g4, g5, g6⟩ := Psh_F (fo := fo) hM s7
    refine K_fin hK' hC (EWc_t hF1 (EWc_t (fo' := fo) (tp' := tp) (EWc_t (tp' := tp + 1) (fo' := fo) (EWc_r tp fo M1) hF2 (by omega) (by omega)) (EWc_t f6 (EWc_t f7 g1 (by omega) (by omega)) (by omega) (by omega)) (by omega) (by omega)) (by omega) (by omega)) g2 g3 g4 g5 ?_ (by omega) (by omega) hq hx
    rw [g6, i7 3 (by decide), m6]; omega
  have r66 : ∀ R', RB0 p R0 R' → ∀ j, 66 ≤ j → j ≤ 70 → R' j y = N j y := fun R' h j j0 j4 => RBn h hn j0 j4 l1 h1
  rcases hK with ⟨w1, w2⟩ | ⟨w1, w1', w2⟩
  · obtain ⟨so, v, hV, hCL, hRF⟩ := part_spec (so2 := so2) (v2 := v2) hE hV1
    refine fin so v hV (by rw [w1]; exact hCL) (fun d R m hd hR hm m0 m1 h103 h101 hvr hit Q hq hx => ?_)
    obtain ⟨d, rfl⟩ : ∃ d', d = d' + 1 := ⟨d - 1, by omega⟩
    obtain ⟨d, rfl⟩ : ∃ d', d = d' + 1 := ⟨d - 1, by omega⟩
    refine r_work (R0 := R0) (p := p) (l := s) (k := 115) (by omega) (by omega) (by rw [r66 R hR 66 (by omega) (by omega)]; exact w2) hm m0 m1 h103 (fun z R1 e1' => ?_) (fun z R' a1 a2 a3 => hx (by omega) R' a1 a2 a3)
    have f1 : EWr s R R1 := by rw [e1']; exact EWr_u (EWr_r _ _) _ (by decide)
    have hRB1 := RB0_F hR f1
    have g : gw_ (d + 1) 2 (fun _ M14 => Q 0 M14) [y] R1 := by
      show b_X12_workPart (gw_ d) (fun _ M14 => Q 0 M14) y R1
      unfold b_X12_workPart
      refine ⟨by omega, by omega, fun u1 ue1 _ => ?_⟩
      rw [r66 R1 hRB1 67 (by omega) (by omega), h67] at ue1
      rw [ue1]
      have nxt : ∀ s0 R2, EWr s R1 R2 → (R2 0 103 = 1 ∧ 30000 < m + 1 + c1) ∨ (R2 0 103 = 0 ∧ m + 1 + c1 ≤ 30000 ∧ R2 0 98 = m + 1 + c1 ∧ s0 = (if so1 = 2 then v1 else -1)) → w_X12_workPart_b27 (gw_ d) (fun _ M14 => Q 0 M14) y s0 R2 := fun s0 R2 f2 hc2' => by
        have hRB2 := RB0_F hRB1 f2
        unfold w_X12_workPart_b27
        refine ⟨by omega, by omega, fun u2 ue2 _ => ?_⟩
        rw [r66 R2 hRB2 68 (by omega) (by omega), h68] at ue2
        rw [ue2]
        rcases hc2' with ⟨sp, big⟩ | ⟨sp, sml, met, es0⟩
        · exact r_spent (l := s) (by omega) sp (fun R3 f3 b3 b9 w4 ew4 _ => ⟨fun z => by omega, fun _ => hx (by omega) R3 (EWr_t f1 (EWr_t f2 f3 (by omega)) (by omega)) b3 b9⟩)
        · refine hR2 d R2 (m + 1 + c1) (by omega) hRB2 met (by omega) (by omega) sp (by rw [f2.2.1 101 (by decide), e1', ux_i _ _ _ (by decide)]; exact h101) (fun i i0 i1 => by rw [(f2.2.2.1 i (Or.inl i1)).1, e1', ux_c _ _ _ _ (by decide)]; exact hvr i i0 i1) (fun z => by rw [f2.2.1 100 (by decide), e1', ux_i _ _ _ (by decide)]; exact hit z) _ (fun z2 R3 f3 b1 b2 b3 b4 w4 ew4 _ => ⟨fun _ => ?_, fun z3 => absurd (by rw [ew4]; exact b2) z3⟩) (fun z2 R3 f3 b2 b9 w4 ew4 _ => ⟨fun z3 => by omega, fun _ => hx (by omega) R3 (EWr_t f1 (EWr_t f2 f3 (by omega)) (by omega)) b2 b9⟩)
          have := hRF (gw_ d) (fun _ M14 => Q 0 M14) R3 s (RB0_F hRB2 f3) b3 b4 (fun R' f4 d1 d2 d3 d4 => hq (by omega) R' (EWr_t f1 (EWr_t f2 (EWr_t f3 f4 (by omega)) (by omega)) (by omega)) (by rw [d1, b1]; omega) (by rw [d2, b2]) d3 d4)
          rw [← es0] at this
          exact this
      refine hR1 d R1 (m + 1) (by omega) hRB1 (by rw [e1', ux_s]) (by omega) (by omega) (by rw [e1', ux_i _ _ _ (by decide)]; exact h103) (by rw [e1', ux_i _ _ _ (by decide)]; exact h101) (fun i i0 i1 => by rw [e1', ux_c _ _ _ _ (by decide)]; exact hvr i i0 i1) (fun z => by rw [e1', ux_i _ _ _ (by decide)]; exact hit z) _ (fun z2 R2 f2 b1 b2 b3 b4 w4 ew4 _ => ⟨fun z4 => nxt _ R2 f2 (Or.inr ⟨b2, z2, b1, by rw [if_neg (by omega)]⟩), fun z4 w6 ew6 _ => ⟨?_, nxt _ R2 f2 (Or.inr ⟨b2, z2, b1, by rw [if_pos (by omega), ew6, b4]⟩)⟩⟩) (fun z2 R2 f2 b2 b9 w4 ew4 _ => ⟨fun z4 => nxt _ R2 f2 (Or.inl ⟨b2, z2⟩), fun z4 => by omega⟩)
      have e2' : so1 = 2 := by omega
      have n4 := hE.2.2.2.2.2.2.1.2.1
      have hv1' := hV1
      unfold VV at hv1'
      unfold ri_
      omega
    have bb : w_X12_work_b50 (gw_ (d + 1)) Q y 115 R1 := by
      unfold w_X12_work_b50 w_X12_work_b100
      exact ⟨fun z => absurd z (by decide), fun _ => ⟨fun _ => ⟨fun z => absurd z (by decide), fun _ => ⟨fun _ => ⟨fun _ => ⟨fun _ => ⟨fun _ => ⟨fun _ => ⟨fun z => absurd z (by decide), fun _ => ⟨fun _ => ⟨fun z => absurd rfl z, fun _ => g⟩, fun z => absurd z (by decide)⟩⟩, fun z => absurd z (by decide)⟩, fun z => absurd z (by decide)⟩, fun z => absurd z (by decide)⟩, fun z => absurd z (by decide)⟩, fun z => absurd (by decide) z⟩⟩, fun z => absurd z (by decide)⟩⟩
    exact ⟨fun z => absurd z (by decide), fun _ => ⟨fun _ => bb, fun z => absurd (by decide) z⟩⟩
  · obtain ⟨so, v, hV, hCL, hRF⟩ := two_spec hE w1 w1' hV1 hV2
    refine fin so v hV hCL (fun d R m hd hR hm m0 m1 h103 h101 hvr hit Q hq hx => ?_)
    obtain ⟨d, rfl⟩ : ∃ d', d = d' + 1 := ⟨d - 1, by omega⟩
    obtain ⟨d, rfl⟩ : ∃ d', d = d' + 1 := ⟨d - 1, by omega⟩
    refine r_work (R0 := R0) (p := p) (l := s) (k := N 66 y) (by omega) (by omega) (r66 R hR 66 (by omega) (by omega)) hm m0 m1 h103 (fun z R1 e1' => ?_) (fun z R' a1 a2 a3 => hx (by omega) R' a1 a2 a3)
    have f1 : EWr s R R1 := by rw [e1']; exact EWr_u (EWr_r _ _) _ (by decide)
    have hRB1 := RB0_F hR f1
    have g : gw_ (d + 1) 4 (fun _ M6 => Q 0 M6) [y] R1 := by
      show b_X12_workTwo (gw_ d) (fun _ M6 => Q 0 M6) y R1
      unfold b_X12_workTwo
      refine ⟨by omega, by omega, fun u1 ue1 _ => ?_⟩
      rw [r66 R1 hRB1 67 (by omega) (by omega), h67] at ue1
      rw [ue1]
      refine hR1 d R1 (m + 1) (by omega) hRB1 (by rw [e1', ux_s]) (by omega) (by omega) (by rw [e1', ux_i _ _ _ (by decide)]; exact h103) (by rw [e1', ux_i _ _ _ (by decide)]; exact h101) (fun i i0 i1 => by rw [e1', ux_c _ _ _ _ (by decide)]; exact hvr i i0 i1) (fun z => by rw [e1', ux_i _ _ _ (by decide)]; exact hit z) _ (fun z2 R2 f2 b1 b2 b3 b4 w4 ew4 _ w5 ew5 _ => ⟨by omega, by omega, fun u2 ue2 _ => ?_⟩) (fun z2 R2 f2 b2 b9 w4 ew4 _ w5 ew5 _ => ⟨by omega, by omega, fun u2 ue2 _ => r_spent (l := s) (by omega) b2 (fun R3 f3 b3 b9' w9 ew9 _ => ⟨fun z => by omega, fun _ => hx (by omega) R3 (EWr_t f1 (EWr_t f2 f3 (by omega)) (by omega)) b3 b9'⟩)⟩)
      have hRB2 := RB0_F hRB1 f2
      rw [r66 R2 hRB2 68 (by omega) (by omega), h68] at ue2
      rw [ue2]
      refine hR2 d R2 (m + 1 + c1) (by omega) hRB2 b1 (by omega) (by omega) b2 (by rw [f2.2.1 101 (by decide), e1', ux_i _ _ _ (by decide)]; exact h101) (fun i i0 i1 => by rw [(f2.2.2.1 i (Or.inl i1)).1, e1', ux_c _ _ _ _ (by decide)]; exact hvr i i0 i1) (fun z => by rw [f2.2.1 100 (by decide), e1', ux_i _ _ _ (by decide)]; exact hit z) _ (fun z3 R3 f3 d1 d2 d3 d4 w9 ew9 _ => ⟨fun _ w11 ew11 _ => ⟨by omega, by omega, fun w12 ew12 _ => ?_⟩, fun z4 => absurd (by rw [ew9]; exact d2) z4⟩) (fun z3 R3 f3 d2 d9 w9 ew9 _ => ⟨fun z4 => by omega, fun _ => hx (by omega) R3 (EWr_t f1 (EWr_t f2 f3 (by omega)) (by omega)) d2 d9⟩)
      rw [r66 R3 (RB0_F hRB2 f3) 66 (by omega) (by omega), w2] at ew12
      rw [ew4, ew5, ew11, ew12, b3, b4, d4]
      exact hRF (gw_ d) (fun _ M6 => Q 0 M6) R3 s d3 (fun R' f4 g1 g2 g3 g4 => hq (by omega) R' (EWr_t f1 (EWr_t f2 (EWr_t f3 f4 (by omega)) (by omega)) (by omega)) (by rw [g1, d1]; omega) (by rw [g2, d2]) g3 g4)
    have bb : w_X12_work_b50 (gw_ (d + 1)) Q y (N 66 y) R1 := by
      unfold w_X12_work_b50
      exact ⟨fun z => by omega, fun _ => ⟨fun _ => ⟨fun z => by omega, fun _ => ⟨fun z => by omega, fun _ => g⟩⟩, fun z => by omega⟩⟩
    exact ⟨fun z => by omega, fun _ => ⟨fun _ => bb, fun z => by omega⟩⟩
