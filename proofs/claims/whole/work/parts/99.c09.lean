/-! questions worked out: and, or -/
theorem c_decide {c pc : Nat} {M0 R0 M : MM} {p B : Int} {Q : Int → MM → Prop} {tp a dv so v tg : Int} (hE : EnvQ c pc M0 R0 p B) (hC : CB M0 M) (a0 : 0 ≤ a) (a1 : a < 500) (h3 : M0 (c + 3) a = tg) (h6 : M 219 6 = tp + 1) (t0 : 0 ≤ tp) (t1 : tp < 121) (hs : M 220 tp = so) (hv : M 221 tp = v)
    (h1 : so ≠ 1 → ∀ M1 M', M1 = ux_ M 219 6 tp → Psh tp 4 0 M1 M' → Q tg M') (h2 : so = 1 → v = dv → Q tg M) (hn : so = 1 → v ≠ dv → ∀ M', M' = ux_ M 219 6 tp → Q (a + 1) M') : w_X4_decide Q a dv M := by
  have g1 := hE.1
  have m3 : ∀ M', CB M0 M' → M' 219 2 = c ∧ M' (c + 3) a = tg := fun M' h => ⟨by rw [h.2 2 (by decide) (by decide) (Or.inl (by decide))]; exact hE.2.2.1, by rw [h.1 (c + 3) (by unfold isG at g1; omega)]; exact h3⟩
  unfold w_X4_decide
  refine fun x1 e1 _ => ⟨fun z x3 e3 _ => ⟨by unfold ri_; omega, by omega, by omega, fun x5 e5 _ => ?_⟩, fun z => by omega⟩
  have b3 : x3 - 1 = tp := by omega
  rw [b3, hs] at e5
  refine ⟨fun z5 x7 e7 _ => ⟨by unfold ri_; omega, by omega, by omega, fun x9 e9 _ => ?_⟩, fun z5 x17 e17 _ => ⟨by unfold ri_; omega, fun M19 e19 => ?_⟩⟩
  · have b7 : x7 - 1 = tp := by omega
    rw [b7, hv] at e9
    refine ⟨fun z9 x11 e11 _ => ⟨by unfold ri_; omega, fun M13 e13 => ⟨by unfold ri_; omega, hn (by omega) (by omega) M13 ?_⟩⟩, fun z9 => ⟨c, (m3 M hC).1, g1, a0, a1, fun x16 e16 _ => ?_⟩⟩
    · rw [e13, show x11 - 1 = tp from by omega]
    · rw [e16, (m3 M hC).2]; exact h2 (by omega) (by omega)
  · have b17 : x17 - 1 = tp := by omega
    rw [b17] at e19
    refine p_push (by rw [e19, ux_s]) t0 t1 (fun M' hM => ?_)
    have hC' : CB M0 M' := by
      refine ⟨fun k hk => ?_, fun i x y w => ?_⟩
      · rw [hM.1 k (by omega) (by omega) (by omega), e19, ux_g _ _ _ (by omega)]; exact hC.1 k hk
      · rw [hM.2.1 i y, e19, ux_i _ _ _ y]; exact hC.2 i x y w
    refine ⟨c, (m3 M' hC').1, g1, a0, a1, fun x23 e23 _ => ?_⟩
    rw [e23, (m3 M' hC').2]
    exact h1 (by omega) M19 M' e19 hM
set_option maxHeartbeats 1600000 in
theorem Sem_3 : Clo3 Sem := by
  intro P N s sf fo it y a e1 e2 lo hi x1 lo1 hi1 x2 lo2 hi2 hS1 hS2 hK hT3 hT1 h67 h68 l1 h1 l2 h2 l3 h3 hsz
  obtain ⟨q1, q2, q3, q4, q5, q6⟩ := hS1
  obtain ⟨r1, r2, r3, r4, r5, r6⟩ := hS2
  refine ⟨by omega, by omega, l1, h1, fun i i0 i1 e8 => ?_, fun c pc M0 R0 p B vr iv hE a0 b5 lo0 h480 hc hn hu hv => ?_⟩
  · by_cases z : i < e1
    · obtain ⟨j, j0, j1, j2⟩ := q5 i i0 z e8
      exact ⟨j, by omega, by omega, j2⟩
    · by_cases z0 : i = e1
      · subst z0; omega
      · by_cases z2 : i < e2
        · obtain ⟨j, j0, j1, j2⟩ := r5 i (by omega) z2 e8
          exact ⟨j, by omega, by omega, j2⟩
        · have : i = e2 := by omega
          subst this; omega
  obtain ⟨so1, v1, c1, hV1, hc1, hC1, hR1⟩ := q6 c pc M0 R0 p B vr iv hE a0 (by omega) (by omega) (by omega) (fun j i j0 j4 i0 i1 => hc j i j0 j4 i0 (by omega)) (nAg_s hn (by omega) (by omega)) ⟨fun i i0 i1 => hu.1 i i0 (by omega), fun i i0 i1 => hu.2 i i0 (by omega)⟩ hv
  obtain ⟨so2, v2, c2, hV2, hc2, hC2, hR2⟩ := r6 c pc M0 R0 p B vr iv hE (by omega) (by omega) (by omega) (by omega) (fun j i j0 j4 i0 i1 => hc j i j0 j4 (by omega) (by omega)) (nAg_s hn (by omega) (by omega)) ⟨fun i i0 i1 => hu.1 i (by omega) (by omega), fun i i0 i1 => hu.2 i (by omega) (by omega)⟩ hv
  obtain ⟨dv, hdv⟩ : ∃ dv : Int, (dv = 0 ∧ P 1 e1 = 33 ∧ N 66 y = 5) ∨ (dv = 1 ∧ P 1 e1 = 34 ∧ N 66 y = 6) := by
    rcases hK with ⟨w1, w2⟩ | ⟨w1, w2⟩
    · exact ⟨0, Or.inl ⟨rfl, w1, w2⟩⟩
    · exact ⟨1, Or.inr ⟨rfl, w1, w2⟩⟩
  have b50 := hE.2.2.2.2.1
  have NO : VV (M0 pc 0) 4 0 := Or.inr (Or.inr (Or.inr (Or.inr ⟨rfl, rfl⟩)))
  have gV1 := VV_r hV1
  have r66 : ∀ R', RB0 p R0 R' → ∀ j, 66 ≤ j → j ≤ 70 → R' j y = N j y := fun R' h j j0 j4 => RBn h hn j0 j4 l1 h1
  -- the class, up to the sign
  have cA : ∀ (K : Nat → Int → MM → Prop) (X : MM → Prop), KSq c M0 K X → ∀ (t : Nat) (M : MM) (tp m : Int), CB M0 M → SI B M → M 219 6 = tp → 0 ≤ tp → tp + (hi - lo) ≤ 121 → M 219 3 = m → 0 ≤ m → m ≤ 30000 → CV s sf it vr iv M → 4 * (30001 - m) ≤ t → (30000 < m + (c1 + 1) → ∀ M', CB M0 M' → SI B M' → M' 219 3 = 30001 → X M') →
      (∀ (t1 : Nat) (M6 : MM), m + c1 ≤ 30000 → (t : Int) ≤ t1 + 1 + 4 * c1 → EWc tp fo M M6 → SI B M6 → CB M0 M6 → M6 219 6 = tp + 1 → M6 220 tp = so1 → M6 221 tp = v1 → M6 219 3 = m + (c1 + 1) → w_X4_decide (fun r M8 => ri_ r → ri_ r → ri_ r → K t1 r M8) e1 dv M6) → K t a M := fun K X hK' t M tp m hC hSI h6 t0 t1 hm m0 m1 hcv ht hx hgo => by
    refine hC1 K X hK' t M tp m hC hSI h6 t0 (by omega) hm m0 m1 hcv ht (fun hc30 t1' M1 ht1 hF1 hS1 h61 hs1 hv1 hm1 => ?_) (fun z => hx (by omega))
    have hCB1 := CB_F hC hF1
    obtain ⟨t1', rfl⟩ : ∃ t', t1' = t' + 1 := ⟨t1' - 1, by omega⟩
    refine K_op (o := P 1 e1) hE hK' hCB1 hm1 (by omega) hc30 (by omega) (by omega) (hc 1 e1 (by omega) (by omega) (by omega) (by omega)) (by omega) (fun M6 e6 => ?_)
    obtain ⟨f6, s6, m6, i6, o6⟩ := mt1 (tp := tp) (fo := fo) hS1 hm1 e6
    have d := hgo t1' M6 hc30 (by omega) (EWc_t hF1 f6 (by omega) (by omega)) s6 (CB_F hCB1 f6) (by rw [i6 6 (by decide)]; exact h61) (by rw [o6 220 (by decide)]; exact hs1) (by rw [o6 221 (by decide)]; exact hv1) (by rw [m6]; omega)
    unfold w_X4_execute_b26
    refine ⟨fun _ => ⟨fun _ => ⟨fun _ => ⟨fun _ => ?_, fun z => by omega⟩, fun z => by omega⟩, fun z => by omega⟩, fun z => by omega⟩
    unfold w_X4_jump
    rcases hdv with ⟨rfl, w1, -⟩ | ⟨rfl, w1, -⟩
    · rw [w1]
      exact ⟨fun _ => d, fun z => absurd z (by decide), fun z => absurd z (by decide), fun z => absurd z (by decide), fun z => absurd z (by decide), fun z => absurd z (by decide), fun z => absurd z (by decide), fun z => absurd rfl z.1⟩
    · rw [w1]
      exact ⟨fun z => absurd z (by decide), fun _ => d, fun z => absurd z (by decide), fun z => absurd z (by decide), fun z => absurd z (by decide), fun z => absurd z (by decide), fun z => absurd z (by decide), fun z => absurd rfl z.2.1⟩
  have tg3 : M0 (c + 3) e1 = e2 + 1 := by rw [hc 3 e1 (by omega) (by omega) (by omega) (by omega)]; exact hT3
  -- the reference, up to the sign
  have rA : ∀ (d : Nat) (R : MM) (m : Int) (Q : Int → MM → Prop), 2 * (hi - lo) ≤ d + 2 → RB0 p R0 R → R 0 98 = m → 0 ≤ m → m ≤ 30000 → R 0 103 = 0 → R 0 101 = s → (∀ i, 0 ≤ i → i < s → R 72 i = vr i) → (it = 1 → R 0 100 = iv) → (30000 < m + (c1 + 1) → ∀ R', EWr s R R' → R' 0 103 = 1 → R' 0 99 = 4 → Q 0 R') →
      (∀ R2, m + 1 + c1 ≤ 30000 → EWr s R R2 → R2 0 98 = m + (c1 + 1) → R2 0 103 = 0 → R2 0 99 = so1 → R2 0 102 = v1 → (so1 ≠ 1 → w_X12_nothing (fun _ M9 => Q 0 M9) R2) ∧ (so1 = 1 → (¬ v1 = dv → 0 ≤ y ∧ y < 480 ∧ (∀ u2, u2 = R2 68 y → ri_ u2 → gw_ d 0 (fun _ M4 => (∀ v5, v5 = M4 0 99 → ri_ v5 → (v5 = 1 → Q 0 M4) ∧ (¬ v5 = 1 → w_X12_nothing (fun _ M8 => Q 0 M8) M4))) [u2] R2)) ∧ (v1 = dv → Q 0 R2))) → gw_ (d + 2) 0 Q [y] R := fun d R m Q hd hR hm m0 m1 h103 h101 hvr hit hx hgo => by
    refine r_work (d := d + 1) (R0 := R0) (p := p) (l := s) (k := N 66 y) (by omega) (by omega) (r66 R hR 66 (by omega) (by omega)) hm m0 m1 h103 (fun z R1 e1' => ?_) (fun z R' a1 a2 a3 => hx (by omega) R' a1 a2 a3)
    have f1 : EWr s R R1 := by rw [e1']; exact EWr_u (EWr_r _ _) _ (by decide)
    have hRB1 := RB0_F hR f1
    have g : gw_ (d + 1) 3 (fun _ M2 => Q 0 M2) [y, dv] R1 := by
      show b_X12_workBoth (gw_ d) (fun _ M2 => Q 0 M2) y dv R1
      unfold b_X12_workBoth
      refine ⟨by omega, by omega, fun u1 ue1 _ => ?_⟩
      rw [r66 R1 hRB1 67 (by omega) (by omega), h67] at ue1
      rw [ue1]
      refine hR1 d R1 (m + 1) (by omega) hRB1 (by rw [e1', ux_s]) (by omega) (by omega) (by rw [e1', ux_i _ _ _ (by decide)]; exact h103) (by rw [e1', ux_i _ _ _ (by decide)]; exact h101) (fun i i0 i1 => by rw [e1', ux_c _ _ _ _ (by decide)]; exact hvr i i0 i1) (fun z => by rw [e1', ux_i _ _ _ (by decide)]; exact hit z) _ (fun z2 R2 f2 b1 b2 b3 b4 w4 ew4 _ => ⟨fun _ w6 ew6 _ => ?_, fun z3 => absurd (by rw [ew4]; exact b2) z3⟩) (fun z2 R2 f2 b2 b9 w4 ew4 _ => ⟨fun z3 => by omega, fun _ => hx (by omega) R2 (EWr_t f1 f2 (by omega)) b2 b9⟩)
      obtain ⟨G1, G2⟩ := hgo R2 z2 (EWr_t f1 f2 (by omega)) (by rw [b1]; omega) b2 b3 b4
      refine ⟨fun z6 => ?_, fun z6 => ?_⟩
      · obtain ⟨G3, G4⟩ := G2 (by omega)
        unfold w_X12_workBoth_b30 w_X12_workBoth_b51
        refine fun w1 ew1 _ => ⟨fun z7 => by omega, fun _ w3 ew3 _ => ?_⟩
        rw [ew3, b4]
        rcases hdv with ⟨rfl, -⟩ | ⟨rfl, -⟩
        · exact ⟨fun _ => ⟨G3, G4⟩, fun z8 => absurd rfl z8⟩
        · exact ⟨fun z8 => absurd z8 (by decide), fun _ => ⟨G3, G4⟩⟩
      · have := G1 (by omega)
        unfold w_X12_nothing w_X12_give at this ⊢
        intro M1 g1 M2 g2
        unfold w_X12_workBoth_b30
        exact fun w1 ew1 _ => ⟨fun _ => this M1 g1 M2 g2, fun z7 => by rw [g2, ux_i _ _ _ (by decide), g1, ux_s] at ew1; omega⟩
    have bb : w_X12_work_b61 (gw_ (d + 1)) Q y (N 66 y) R1 := by
      unfold w_X12_work_b61 w_X12_work_b74
      rcases hdv with ⟨rfl, -, w2⟩ | ⟨rfl, -, w2⟩
      · exact ⟨fun _ => ⟨Or.inl rfl, g⟩, fun z => by omega⟩
      · exact ⟨fun z => absurd w2 z, fun _ => ⟨Or.inr rfl, g⟩⟩
    have cc : w_X12_work_b50 (gw_ (d + 1)) Q y (N 66 y) R1 := by
      unfold w_X12_work_b50
      exact ⟨fun _ => bb, fun z => ⟨fun z2 => by omega, fun _ => bb⟩⟩
    exact ⟨fun _ => cc, fun z => by omega⟩
  by_cases s1 : so1 = 1
  rotate_left
  · refine ⟨4, 0, c1 + 1, NO, by omega, fun K X hK' t M tp m hC hSI h6 t0 t1 hm m0 m1 hcv ht hq hx => ?_, fun d R m hd hR hm m0 m1 h103 h101 hvr hit Q hq hx => ?_⟩
    · refine cA K X hK' t M tp m hC hSI h6 t0 t1 hm m0 m1 hcv ht hx (fun t1' M6 hc30 ht1 f6 s6 hC6 h66 hs6 hv6 hm6 => c_decide hE hC6 (by omega) (by omega) tg3 h66 t0 (by omega) hs6 hv6 (fun _ M7 M' e7 hM _ _ _ => ?_) (fun z => absurd z s1) (fun z => absurd z s1))
      obtain ⟨f7, s7, t7, i7, o7⟩ := topF (tp := tp) (fo := fo) s6 e7
      obtain ⟨g1, g2, g3, g4, g5, g6⟩ := Psh_F (fo := fo) hM s7
      exact K_fin hK' hC (EWc_t f6 (EWc_t f7 g1 (by omega) (by omega)) (by omega) (by omega)) g2 g3 g4 g5 (by rw [g6, i7 3 (by decide), hm6]) (by omega) (by omega) hq hx
    · obtain ⟨d, rfl⟩ : ∃ d', d = d' + 2 := ⟨d - 2, by omega⟩
      exact rA d R m Q hd hR hm m0 m1 h103 h101 hvr hit hx (fun R2 z2 f2 b1 b2 b3 b4 => ⟨fun _ => r_no (l := s) (fun R' f3 d1 d2 d3 d4 => hq (by omega) R' (EWr_t f2 f3 (by omega)) (by rw [d1, b1]) (by rw [d2, b2]) d3 d4), fun z => absurd z s1⟩)
  subst s1
  by_cases dd : v1 = dv
  · refine ⟨1, v1, c1 + 1, hV1, by omega, fun K X hK' t M tp m hC hSI h6 t0 t1 hm m0 m1 hcv ht hq hx => ?_, fun d R m hd hR hm m0 m1 h103 h101 hvr hit Q hq hx => ?_⟩
    · exact cA K X hK' t M tp m hC hSI h6 t0 t1 hm m0 m1 hcv ht hx (fun t1' M6 hc30 ht1 f6 s6 hC6 h66 hs6 hv6 hm6 => c_decide hE hC6 (by omega) (by omega) tg3 h66 t0 (by omega) hs6 hv6 (fun z => absurd rfl z) (fun _ _ _ _ _ => K_fin hK' hC f6 s6 h66 hs6 hv6 hm6 (by omega) (by omega) hq hx) (fun _ z => absurd dd z))
    · obtain ⟨d, rfl⟩ : ∃ d', d = d' + 2 := ⟨d - 2, by omega⟩
      exact rA d R m Q hd hR hm m0 m1 h103 h101 hvr hit hx (fun R2 z2 f2 b1 b2 b3 b4 => ⟨fun z => absurd rfl z, fun _ => ⟨fun z => absurd dd z, fun _ => hq (by omega) R2 f2 b1 b2 b3 b4⟩⟩)
  -- the right one is worked out
  obtain ⟨so, v, hV, hso⟩ : ∃ so v, VV (M0 pc 0) so v ∧ ((so2 = 1 ∧ so = 1 ∧ v = v2) ∨ (so2 ≠ 1 ∧ so = 4 ∧ v = 0)) := by
    by_cases h : so2 = 1
    · exact ⟨1, v2, by rw [h] at hV2; exact hV2, Or.inl ⟨h, rfl, rfl⟩⟩
    · exact ⟨4, 0, NO, Or.inr ⟨h, rfl, rfl⟩⟩
  refine ⟨so, v, c1 + 1 + c2, hV, by omega, fun K X hK' t M tp m hC hSI h6 t0 t1 hm m0 m1 hcv ht hq hx => ?_, fun d R m hd hR hm m0 m1 h103 h101 hvr hit Q hq hx => ?_⟩
  · refine cA K X hK' t M tp m hC hSI h6 t0 t1 hm m0 m1 hcv ht (fun z => hx (by omega)) (fun t1' M6 hc30 ht1 f6 s6 hC6 h66 hs6 hv6 hm6 => c_decide hE hC6 (by omega) (by omega) tg3 h66 t0 (by omega) hs6 hv6 (fun z => absurd rfl z) (fun _ z => absurd z dd) (fun _ _ M7 e7 _ _ _ => ?_))
    obtain ⟨f7, s7, t7, i7, o7⟩ := topF (tp := tp) (fo := fo) s6 e7
    have hC7 := CB_F hC6 f7
    have m7 : M7 219 3 = m + (c1 + 1) := by rw [i7 3 (by decide), hm6]
    have F7 := EWc_t f6 f7 (Int.le_refl tp) (Int.le_refl fo)
    by_cases big : 30000 < m + (c1 + 1)
    · exact hK'.2 t1' _ M7 hC7 (by omega) (hx (by omega) M7 hC7 s7 (by omega))
    refine hC2 K X hK' t1' M7 tp (m + (c1 + 1)) hC7 s7 t7 t0 (by omega) m7 (by omega) (by omega) (CV_F hcv hv F7) (by omega) (fun hc31 t2' M8 ht2 hF8 hS8 h68' hs8 hv8 hm8 => ?_) (fun z => hx (by omega))
    have hC8 := CB_F hC7 hF8
    obtain ⟨t2', rfl⟩ : ∃ t', t2' = t' + 1 := ⟨t2' - 1, by omega⟩
    refine K_qt (o := 35) hE hK' hC8 (by omega) (by omega) (by omega) (by rw [hc 1 e2 (by omega) (by omega) (by omega) (by omega)]; exact hT1) (by omega) ?_
    unfold w_X4_jump
    refine ⟨fun z => absurd z (by decide), fun z => absurd z (by decide), fun _ x8 ex8 _ => ⟨fun z => by omega, fun _ x11 ex11 _ => ⟨by unfold ri_; omega, by omega, by omega, fun x13 ex13 _ => ?_⟩⟩, fun z => absurd z (by decide), fun z => absurd z (by decide), fun z => absurd z (by decide), fun z => absurd z (by decide), fun z => absurd rfl z.2.2.1⟩
    have a11 : x11 - 1 = tp := by omega
    rw [a11, hs8] at ex13
    have F8 := EWc_t F7 hF8 (Int.le_refl tp) (Int.le_refl fo)
    refine ⟨fun z => ⟨by unfold ri_; omega, fun _ _ => ?_⟩, fun z x16 ex16 _ => ⟨by unfold ri_; omega, fun M18 e18 => ?_⟩⟩
    · rcases hso with ⟨_, rfl, rfl⟩ | ⟨y1, _⟩
      · exact K_fin hK' hC F8 hS8 h68' (by rw [hs8]; omega) hv8 (by rw [hm8]; omega) (by omega) (by omega) hq hx
      · omega
    · have a16 : x16 - 1 = tp := by omega
      rw [a16] at e18
      obtain ⟨f9, s9, t9, i9, o9⟩ := topF (tp := tp) (fo := fo) hS8 e18
      refine p_push t9 t0 (by omega) (fun M' hM => ⟨by unfold ri_; omega, fun _ _ => ?_⟩)
      obtain ⟨g1, g2, g3, g4, g5, g6⟩ := Psh_F (fo := fo) hM s9
      rcases hso with ⟨y1, _⟩ | ⟨_, rfl, rfl⟩
      · omega
      · exact K_fin hK' hC (EWc_t F8 (EWc_t f9 g1 (by omega) (by omega)) (by omega) (by omega)) g2 g3 g4 g5 (by rw [g6, i9 3 (by decide), hm8]; omega) (by omega) (by omega) hq hx
  · obtain ⟨d, rfl⟩ : ∃ d', d = d' + 2 := ⟨d - 2, by omega⟩
    refine rA d R m Q hd hR hm m0 m1 h103 h101 hvr hit (fun z => hx (by omega)) (fun R2 z2 f2 b1 b2 b3 b4 => ⟨fun z => absurd rfl z, fun _ => ⟨fun _ => ⟨by omega, by omega, fun u2 ue2 _ => ?_⟩, fun z => absurd z dd⟩⟩)
    have hRB2 := RB0_F hR f2
    rw [r66 R2 hRB2 68 (by omega) (by omega), h68] at ue2
    rw [ue2]
    refine hR2 d R2 (m + (c1 + 1)) (by omega) hRB2 b1 (by omega) (by omega) b2 (by rw [f2.2.1 101 (by decide)]; exact h101) (fun i i0 i1 => by rw [(f2.2.2.1 i (Or.inl i1)).1]; exact hvr i i0 i1) (fun z => by rw [f2.2.1 100 (by decide)]; exact hit z) _ (fun z3 R3 f3 d1 d2 d3 d4 w5 ew5 _ => ⟨fun z5 => ?_, fun z5 => ?_⟩) (fun z3 R3 f3 d2 d9 w5 ew5 _ => ⟨fun z5 => by omega, fun _ => r_no (l := s) (fun R' f4 g1 g2 g3 g4 => hx (by omega) R' (EWr_t f2 (EWr_t f3 f4 (by omega)) (by omega)) (by rw [g2, d2]) g3)⟩)
    · rcases hso with ⟨_, rfl, rfl⟩ | ⟨y1, _⟩
      · exact hq (by omega) R3 (EWr_t f2 f3 (by omega)) (by rw [d1]; omega) d2 (by rw [d3]; omega) d4
      · omega
    · rcases hso with ⟨y1, _⟩ | ⟨_, rfl, rfl⟩
      · omega
      · exact r_no (l := s) (fun R' f4 g1 g2 g3 g4 => hq (by omega) R' (EWr_t f2 (EWr_t f3 f4 (by omega)) (by omega)) (by rw [g1, d1]; omega) (by rw [g2, d2]) g3 g4)
