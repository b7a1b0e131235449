/-! questions worked out: one value's acts are closed -/
theorem CRun_sub {c pc : Nat} {M0 : MM} {B s : Int} {sf : Int → Int} {fo it : Int} {vr : Int → Int} {iv a b sz sz' so v cost : Int} (h : CRun c pc M0 B s sf fo it vr iv a b sz so v cost) (hz : sz ≤ sz') : CRun c pc M0 B s sf fo it vr iv a b sz' so v cost :=
  fun K X hK t M tp m hC hS h6 t0 t1 => h K X hK t M tp m hC hS h6 t0 (by omega)
theorem CV_F {s : Int} {sf : Int → Int} {fo it : Int} {vr : Int → Int} {iv n tp : Int} {M M' : MM} (h : CV s sf it vr iv M) (hv : vOK n s sf fo it vr iv) (hF : EWc tp fo M M') : CV s sf it vr iv M' := ⟨fun i i0 i1 => by rw [hF.2.2.2.1 226 (sf i) (by omega) (by omega) (hv.2.2.2.2.1 i i0 i1).2.1]; exact h.1 i i0 i1, fun z => by rw [hF.2.2.2.1 226 0 (by omega) (by omega) hv.2.2.1]; exact h.2 z⟩
theorem topF {B tp fo v : Int} {M M7 : MM} (hS : SI B M) (e7 : M7 = ux_ M 219 6 v) : EWc tp fo M M7 ∧ SI B M7 ∧ M7 219 6 = v ∧ (∀ i, i ≠ 6 → M7 219 i = M 219 i) ∧ ∀ k, k ≠ 219 → M7 k = M k := by
  refine ⟨?_, fun f f0 f1 => ?_, by rw [e7, ux_s], fun i hi => by rw [e7, ux_i _ _ _ hi], fun k hk => by rw [e7]; exact ux_g _ _ _ hk⟩
  · rw [e7]
    exact ⟨fun k hk => ux_g _ _ _ (by omega), fun i _ b => ux_i _ _ _ b, fun i _ => ⟨ux_c _ _ _ _ (by decide), ux_c _ _ _ _ (by decide)⟩, fun k i a b _ => ux_c _ _ _ _ (by omega), fun k i a b _ => ux_c _ _ _ _ (by omega), fun i _ => ux_c _ _ _ _ (by decide)⟩
  · rw [e7, ux_g _ _ _ (by decide), ux_i _ _ _ (by decide), ux_g _ _ _ (by decide), ux_g _ _ _ (by decide)]
    exact hS f f0 f1
theorem Sem_1 : Clo1 Sem := by
  intro P N s sf fo it y a e lo hi x lo1 hi1 hS hK h67 l1 h1 l2 h2 hsz
  obtain ⟨q1, q2, q3, q4, q5, q6⟩ := hS
  refine ⟨by omega, by omega, l1, h1, fun i i0 i1 e8 => ?_, fun c pc M0 R0 p B vr iv hE a0 b5 lo0 h480 hc hn hu hv => ?_⟩
  · by_cases z : i = e
    · subst z
      refine ⟨y, l1, h1, ?_⟩
      rcases hK with ⟨w1, w2, w3⟩ | ⟨w1, w2, w3⟩ | ⟨w1, w2⟩ | ⟨w1, w2⟩ | ⟨w1, w2, w3⟩ <;> omega
    · obtain ⟨j, j0, j1, j2⟩ := q5 i i0 (by omega) e8
      exact ⟨j, by omega, by omega, j2⟩
  obtain ⟨so1, v1, c1, hV1, hc1, hC1, hR1⟩ := q6 c pc M0 R0 p B vr iv hE a0 (by omega) (by omega) (by omega) (fun j i j0 j4 i0 i1 => hc j i j0 j4 i0 (by omega)) (nAg_s hn (by omega) (by omega)) ⟨fun i i0 i1 => hu.1 i i0 (by omega), fun i i0 i1 => hu.2 i i0 (by omega)⟩ hv
  obtain ⟨so, v, hV, hCL, hRF⟩ := one_spec hE hK (show 0 ≤ y by omega) (by omega) (fun R h => RBn h hn (j := 70) (by omega) (by omega) l1 h1) (fun z => hu.1 e (by omega) (by omega) z) hV1
  have o15 : 7 ≤ P 1 e ∧ P 1 e < 15 := by rcases hK with ⟨w1, w2, w3⟩ | ⟨w1, w2, w3⟩ | ⟨w1, w2⟩ | ⟨w1, w2⟩ | ⟨w1, w2, w3⟩ <;> omega
  have k13 : (N 66 y < 13 ∧ N 66 y ≠ 5 ∧ N 66 y ≠ 6 ∧ N 66 y ≠ 8 ∧ N 66 y ≠ 9 ∧ N 66 y ≠ 10) ∨ (18 < N 66 y ∧ N 66 y < 27 ∨ 112 < N 66 y ∧ N 66 y < 115) := by rcases hK with ⟨w1, w2, w3⟩ | ⟨w1, w2, w3⟩ | ⟨w1, w2⟩ | ⟨w1, w2⟩ | ⟨w1, w2, w3⟩ <;> omega
  refine ⟨so, v, c1 + 1, hV, by omega, fun K X hK' t M tp m hC hSI h6 t0 t1 hm m0 m1 hcv ht hq hx => ?_, fun d R m hd hR hm m0 m1 h103 h101 hvr hit Q hq hx => ?_⟩
  · refine hC1 K X hK' t M tp m hC hSI h6 t0 (by omega) hm m0 m1 hcv ht (fun hc30 t1' M1 ht1 hF1 hS1 h61 hs1 hv1 hm1 => ?_) (fun z => hx (by omega))
    have hC1' := CB_F hC hF1
    obtain ⟨t1', rfl⟩ : ∃ t', t1' = t' + 1 := ⟨t1' - 1, by omega⟩
    refine K_op (o := P 1 e) hE hK' hC1' hm1 (by omega) hc30 (by omega) (by omega) (hc 1 e (by omega) (by omega) (by omega) (by omega)) (by omega) (fun M6 e6 => ?_)
    obtain ⟨f6, s6, m6, i6, o6⟩ := mt1 (tp := tp) (fo := fo) hS1 hm1 e6
    obtain ⟨⟨_, u1, u2, rfl⟩, u4⟩ := c_at hE (CB_F hC1' f6) hc (e := e) (by omega) (by omega)
    have b50 := hE.2.2.2.2.1
    unfold w_X4_execute_b26
    refine ⟨fun _ => ⟨fun z => by omega, fun _ => ⟨_, u1, u2, by omega, by omega, fun v14 e14 _ => ?_⟩⟩, fun z => by omega⟩
    rw [u4 4 (by omega) (by omega)] at e14
    rw [e14]
    refine hCL _ M6 tp (CB_F hC1' f6) (by rw [i6 6 (by decide)]; exact h61) (by rw [o6 220 (by decide)]; exact hs1) (by rw [o6 221 (by decide)]; exact hv1) t0 (by omega) (fun M7 M' e7 hM => ⟨by unfold ri_; omega, fun _ => ?_⟩)
    have f7 : EWc tp fo M6 M7 := by
      rw [e7]
      exact ⟨fun k hk => ux_g _ _ _ (by omega), fun i _ b => ux_i _ _ _ b, fun i _ => ⟨ux_c _ _ _ _ (by decide), ux_c _ _ _ _ (by decide)⟩, fun k i a b _ => ux_c _ _ _ _ (by omega), fun k i a b _ => ux_c _ _ _ _ (by omega), fun i _ => ux_c _ _ _ _ (by decide)⟩
    have s7 : SI B M7 := fun f f0 f1 => by
      rw [e7, ux_g _ _ _ (by decide), ux_i _ _ _ (by decide), ux_g _ _ _ (by decide), ux_g _ _ _ (by decide)]
      exact s6 f f0 f1
    obtain ⟨g1, g2, g3, g4, g5, g6⟩ := Psh_F (fo := fo) hM s7
    refine K_fin hK' hC (EWc_t hF1 (EWc_t f6 (EWc_t f7 g1 (by omega) (by omega)) (by omega) (by omega)) (by omega) (by omega)) g2 g3 g4 g5 ?_ (by omega) (by omega) hq hx
    rw [g6, e7, ux_i _ _ _ (by decide), m6]; omega
  · obtain ⟨d, rfl⟩ : ∃ d', d = d' + 1 := ⟨d - 1, by omega⟩
    obtain ⟨d, rfl⟩ : ∃ d', d = d' + 1 := ⟨d - 1, by omega⟩
    have r66 : ∀ R', RB0 p R0 R' → R' 66 y = N 66 y := fun R' h => RBn h hn (j := 66) (i := y) (by omega) (by omega) l1 h1
    refine r_work (R0 := R0) (p := p) (l := s) (by omega) (by omega) (r66 R hR) hm m0 m1 h103 (fun z R1 e1 => ?_) (fun z R' a1 a2 a3 => hx (by omega) R' a1 a2 a3)
    have f1 : EWr s R R1 := by rw [e1]; exact EWr_u (EWr_r _ _) _ (by decide)
    have hRB1 := RB0_F hR f1
    have g : gw_ (d + 1) 1 (fun _ M10 => Q 0 M10) [y] R1 := by
      show b_X12_workOne (gw_ d) (fun _ M10 => Q 0 M10) y R1
      unfold b_X12_workOne
      refine ⟨by omega, by omega, fun w1 ew1 _ => ?_⟩
      rw [RBn hRB1 hn (j := 67) (i := y) (by omega) (by omega) l1 h1, h67] at ew1
      rw [ew1]
      refine hR1 d R1 (m + 1) (by omega) hRB1 (by rw [e1, ux_s]) (by omega) (by omega) (by rw [e1, ux_i _ _ _ (by decide)]; exact h103) (by rw [e1, ux_i _ _ _ (by decide)]; exact h101) (fun i i0 i1 => by rw [e1, ux_c _ _ _ _ (by decide)]; exact hvr i i0 i1) (fun z => by rw [e1, ux_i _ _ _ (by decide)]; exact hit z) _ (fun z2 R2 f2 b1 b2 b3 b4 w4 ew4 _ => ⟨fun _ => ⟨by omega, by omega, fun w6 ew6 _ => ?_⟩, fun z3 => absurd (by rw [ew4]; exact b2) z3⟩) (fun z2 R2 f2 b2 b9 w4 ew4 _ => ⟨fun z3 => by omega, fun _ => hx (by omega) R2 (EWr_t f1 f2 (by omega)) b2 b9⟩)
      have hRB2 := RB0_F hRB1 f2
      rw [r66 R2 hRB2] at ew6
      rw [ew6]
      exact hRF (gw_ d) (fun _ M10 => Q 0 M10) R2 s hRB2 b3 b4 (fun R' f3 d1 d2 d3 d4 => hq (by omega) R' (EWr_t f1 (EWr_t f2 f3 (by omega)) (by omega)) (by rw [d1, b1]; omega) (by rw [d2, b2]) d3 d4)
    have bb : w_X12_work_b50 (gw_ (d + 1)) Q y (N 66 y) R1 := by
      unfold w_X12_work_b50 w_X12_work_b100
      rcases k13 with ⟨a1, a2, a3, a4, a5, a6⟩ | a1
      · exact ⟨fun z => absurd z a2, fun _ => ⟨fun _ => ⟨fun _ => ⟨fun _ => ⟨fun _ => ⟨fun _ => ⟨fun _ => ⟨fun z => absurd z a5, fun _ => ⟨fun _ => ⟨fun _ => ⟨fun _ => g, fun z => by omega⟩, fun z => by omega⟩, fun z => absurd z a6⟩⟩, fun z => absurd z a4⟩, fun z => by omega⟩, fun z => by omega⟩, fun z => by omega⟩, fun z => by omega⟩, fun z => absurd z a3⟩⟩
      · have gg : (¬ N 66 y = 100 → (¬ N 66 y = 101 → (¬ N 66 y = 27 → (¬ N 66 y = 8 → (N 66 y = 9 → w_X12_work_b192 (gw_ (d + 1)) Q (N 66 y) R1) ∧ (¬ N 66 y = 9 → (¬ N 66 y = 10 → (¬ N 66 y = 115 → (¬ N 66 y = 28 → gw_ (d + 1) 1 (fun _ M10 => Q 0 M10) [y] R1) ∧ (N 66 y = 28 → w_X12_workNumbered (fun _ M12 => Q 0 M12) y R1)) ∧ (N 66 y = 115 → gw_ (d + 1) 2 (fun _ M14 => Q 0 M14) [y] R1)) ∧ (N 66 y = 10 → w_X12_work_b192 (gw_ (d + 1)) Q (N 66 y) R1))) ∧ (N 66 y = 8 → w_X12_give (fun _ M16 => Q 0 M16) 3 0 R1)) ∧ (N 66 y = 27 → (∀ v17, v17 = R1 0 100 → ri_ v17 → w_X12_give (fun _ M19 => Q 0 M19) 2 v17 R1))) ∧ (N 66 y = 101 → 0 ≤ y ∧ y < 480 ∧ (∀ v20, v20 = R1 67 y → ri_ v20 → 0 ≤ v20 ∧ v20 < 12 ∧ (∀ v21, v21 = R1 72 v20 → ri_ v21 → w_X12_give (fun _ M23 => Q 0 M23) 2 v21 R1)))) ∧ (N 66 y = 100 → 0 ≤ y ∧ y < 480 ∧ (∀ v24, v24 = R1 70 y → rl_ v24 → w_X12_give (fun _ M26 => Q 0 M26) 0 v24 R1)) := ⟨fun _ => ⟨fun _ => ⟨fun _ => ⟨fun _ => ⟨fun z => by omega, fun _ => ⟨fun _ => ⟨fun _ => ⟨fun _ => g, fun z => by omega⟩, fun z => by omega⟩, fun z => by omega⟩⟩, fun z => by omega⟩, fun z => by omega⟩, fun z => by omega⟩, fun z => by omega⟩
        exact ⟨fun z => by omega, fun _ => ⟨fun _ => ⟨fun _ => gg, fun _ => ⟨fun _ => gg, fun z => by omega⟩⟩, fun z => by omega⟩⟩
    exact ⟨fun _ => bb, fun z => ⟨fun _ => bb, fun z2 => by omega⟩⟩
