/-! questions worked out: leaves -/
theorem Sem_leaf {P : CD} {N : MM} {s : Int} {sf : Int → Int} {fo it x a : Int} (o k : Int) (o7 : o < 7) (hP : P 1 a = o) (hN : N 66 x = k)
    (H : ∀ (c pc : Nat) (M0 R0 : MM) (p B : Int) (vr : Int → Int) (iv : Int), EnvQ c pc M0 R0 p B → 0 ≤ a → a < M0 c 5 → 0 ≤ x → x < 480 → cAg P M0 c a (a + 1) → nAg N R0 x (x + 1) → vOK (M0 pc 0) s sf fo it vr iv → ∃ so v, VV (M0 pc 0) so v ∧ (∀ (Q : Int → MM → Prop) M6 tp, CB M0 M6 → CV s sf it vr iv M6 → M6 219 6 = tp → 0 ≤ tp → tp < 121 → (∀ M', Psh tp so v M6 M' → Q 0 M') → w_X4_doLeaf Q o a M6) ∧
      ∀ (Q : Int → MM → Prop) (d : Nat) R1, RB0 p R0 R1 → (∀ i, 0 ≤ i → i < s → R1 72 i = vr i) → (it = 1 → R1 0 100 = iv) → (∀ R', EWr s R1 R' → R' 0 98 = R1 0 98 → R' 0 103 = R1 0 103 → R' 0 99 = so → R' 0 102 = v → Q 0 R') → (k < 13 → w_X12_work_b50 (gw_ d) Q x k R1) ∧ (¬ k < 13 → (18 < k → w_X12_work_b50 (gw_ d) Q x k R1) ∧ (¬ 18 < k → gw_ d 6 (fun _ M7 => Q 0 M7) [x] R1))) : Sem P N s sf fo it x a (a + 1) x (x + 1) := by
  refine ⟨by omega, by omega, by omega, by omega, fun i i0 i1 e => ?_, fun c pc M0 R0 p B vr iv hE a0 b5 l0 h480 hc hn hu hv => ?_⟩
  · have : i = a := by omega
    rw [this] at e; omega
  obtain ⟨so, v, hVV, hcl, hrf⟩ := H c pc M0 R0 p B vr iv hE a0 (by omega) l0 (by omega) hc hn hv
  refine ⟨so, v, 1, hVV, by omega, fun K X hK t M tp m hC hS htp tp0 tp1 hm m0 m1 hcv ht hq hx => ?_, fun d R m hd hR hm m0 m1 h103 h101 hvr hit Q hq hx => ?_⟩
  · obtain ⟨t, rfl⟩ : ∃ t', t = t' + 1 := ⟨t - 1, by omega⟩
    refine K_op (o := o) hE hK hC hm m0 m1 a0 (by omega) (by rw [hc 1 a (by omega) (by omega) (by omega) (by omega)]; exact hP) (by omega) (fun M6 e6 => ?_)
    obtain ⟨f6, s6, m6, i6, o6⟩ := mt1 (tp := tp) (fo := fo) hS hm e6
    unfold w_X4_execute_b26
    refine ⟨fun z => by omega, fun _ => hcl _ M6 tp (CB_F hC f6) ⟨fun i i0 i1 => by rw [o6 226 (by decide)]; exact hcv.1 i i0 i1, fun z => by rw [o6 226 (by decide)]; exact hcv.2 z⟩ (by rw [i6 6 (by decide)]; exact htp) tp0 (by omega) (fun M' hM => ⟨by unfold ri_; have := hE.2.2.2.2.1; omega, fun _ => ?_⟩)⟩
    obtain ⟨g1, g2, g3, g4, g5, g6⟩ := Psh_F (fo := fo) hM s6
    exact K_fin hK hC (EWc_t f6 g1 (by omega) (by omega)) g2 g3 g4 g5 (by rw [g6, m6]) (by omega) (by omega) hq hx
  · obtain ⟨d, rfl⟩ : ∃ d', d = d' + 1 := ⟨d - 1, by omega⟩
    refine r_work (R0 := R0) (p := p) (l := s) l0 (by omega) (show R 66 x = k by rw [RBn hR hn (j := 66) (i := x) (by omega) (by omega) (by omega) (by omega)]; exact hN) hm m0 m1 h103 (fun z R1 e1 => ?_) (fun z R' a1 a2 a3 => hx (by omega) R' a1 a2 a3)
    have f1 : EWr s R R1 := by rw [e1]; exact EWr_u (EWr_r _ _) _ (by decide)
    refine hrf Q d R1 (RB0_F hR f1) (fun i i0 i1 => by rw [e1, ux_c _ _ _ _ (by decide)]; exact hvr i i0 i1) (fun z => by rw [e1, ux_i _ _ _ (by decide)]; exact hit z) (fun R' f2 b1 b2 b3 b4 => hq (by omega) R' (EWr_t f1 f2 (by omega)) (by rw [b1, e1, ux_s]) (by rw [b2, e1, ux_i _ _ _ (by decide)]; exact h103) b3 b4)
/-- the class's program at a step -/
theorem c_at {c pc : Nat} {M0 R0 M : MM} {p B : Int} {P : CD} {a b e : Int} (hE : EnvQ c pc M0 R0 p B) (hC : CB M0 M) (hc : cAg P M0 c a b) (e0 : a ≤ e) (e1 : e < b) : (∃ c1 : Nat, M 219 2 = c1 ∧ isG c1 ∧ c1 = c) ∧ ∀ j, 0 < j → j ≤ 4 → M (c + j) e = P j e := by
  have g1 := hE.1
  refine ⟨⟨c, by rw [hC.2 2 (by decide) (by decide) (Or.inl (by decide))]; exact hE.2.2.1, g1, rfl⟩, fun j j0 j4 => ?_⟩
  rw [hC.1 (c + j) (by unfold isG at g1; omega)]
  exact hc j e j0 j4 e0 e1
theorem q_pic {c pc : Nat} {M0 R0 M : MM} {p B : Int} (hE : EnvQ c pc M0 R0 p B) (hC : CB M0 M) : M 219 1 = pc ∧ isP pc ∧ ∀ k, k ≤ 32 → M (pc + k) = M0 (pc + k) := by
  have g1 := hE.2.1
  refine ⟨by rw [hC.2 1 (by decide) (by decide) (Or.inl (by decide))]; exact hE.2.2.2.1, g1, fun k hk => hC.1 _ (by unfold isP at g1; omega)⟩
set_option maxHeartbeats 800000 in
theorem Sem_L : CloL Sem := by
  intro P N s sf fo it x a h s0 s1
  rcases h with ⟨h1, h2, h3⟩ | ⟨h1, h2⟩ | ⟨h1, h2⟩ | ⟨h1, h2⟩ | ⟨h1, h2, h3, h4⟩ | ⟨h1, h3, h4, h2⟩ | ⟨h1, h2, h3, h4, h5⟩
  · refine Sem_leaf 0 100 (by omega) h1 h2 (fun c pc M0 R0 p B vr iv hE a0 a1 x0 x1 hc hn hv => ⟨0, P 4 a, Or.inl rfl, fun Q M6 tp hC hcv ht tp0 tp1 hq => ?_, fun Q d R1 hR hvr hit hq => ?_⟩)
    · obtain ⟨⟨_, u1, u2, rfl⟩, u4⟩ := c_at hE hC hc (e := a) (by omega) (by omega)
      have b5 := hE.2.2.2.2.1
      unfold w_X4_doLeaf
      refine ⟨_, u1, u2, a0, by omega, fun v2 e2 _ => ⟨_, u1, u2, a0, by omega, fun v4 e4 _ => ⟨fun _ => p_push ht tp0 tp1 (fun M' h => hq M' (by rw [← u4 4 (by omega) (by omega), ← e4]; exact h)), fun z => absurd z (by decide), fun z => absurd z (by decide), fun z => absurd z (by decide), fun z => absurd z (by decide), fun z => absurd z (by decide), fun z => by omega⟩⟩⟩
    · have n70 : R1 70 x = P 4 a := by rw [RBn hR hn (j := 70) (i := x) (by omega) (by omega) (by omega) (by omega), h3]
      unfold w_X12_work_b50 w_X12_work_b100
      exact ⟨fun z => absurd z (by decide), fun _ => ⟨fun _ => ⟨fun z => absurd z (by decide), fun _ => ⟨fun _ => ⟨fun _ => ⟨fun z => absurd rfl z, fun _ => ⟨x0, x1, fun v24 e24 _ => r_giv (l := s) (fun R' f b1 b2 b3 b4 => hq R' f b1 b2 b3 (by rw [b4, e24, n70]))⟩⟩, fun z => absurd (by decide) z⟩, fun z => absurd z (by decide)⟩⟩, fun z => absurd (by decide) z⟩⟩
  · refine Sem_leaf 1 8 (by omega) h1 h2 (fun c pc M0 R0 p B vr iv hE a0 a1 x0 x1 hc hn hv => ⟨3, 0, Or.inr (Or.inr (Or.inr (Or.inl ⟨rfl, rfl⟩))), fun Q M6 tp hC hcv ht tp0 tp1 hq => ?_, fun Q d R1 hR hvr hit hq => ?_⟩)
    · obtain ⟨⟨_, u1, u2, rfl⟩, u4⟩ := c_at hE hC hc (e := a) (by omega) (by omega)
      have b5 := hE.2.2.2.2.1
      unfold w_X4_doLeaf
      refine ⟨_, u1, u2, a0, by omega, fun v2 e2 _ => ⟨_, u1, u2, a0, by omega, fun v4 e4 _ => ⟨fun z => absurd z (by decide), fun _ => p_push ht tp0 tp1 hq, fun z => absurd z (by decide), fun z => absurd z (by decide), fun z => absurd z (by decide), fun z => absurd z (by decide), fun z => by omega⟩⟩⟩
    · unfold w_X12_work_b50 w_X12_work_b100
      exact ⟨fun _ => ⟨fun z => absurd z (by decide), fun _ => ⟨fun _ => ⟨fun _ => ⟨fun _ => ⟨fun _ => ⟨fun _ => ⟨fun z => absurd rfl z, fun _ => r_giv (l := s) hq⟩, fun z => absurd z (by decide)⟩, fun z => absurd z (by decide)⟩, fun z => absurd z (by decide)⟩, fun z => absurd (by decide) z⟩, fun z => absurd z (by decide)⟩⟩, fun z => absurd (by decide) z⟩
  · refine Sem_leaf 2 9 (by omega) h1 h2 (fun c pc M0 R0 p B vr iv hE a0 a1 x0 x1 hc hn hv => ⟨1, 1, Or.inr (Or.inl ⟨rfl, Or.inr rfl⟩), fun Q M6 tp hC hcv ht tp0 tp1 hq => ?_, fun Q d R1 hR hvr hit hq => ?_⟩)
    · obtain ⟨⟨_, u1, u2, rfl⟩, u4⟩ := c_at hE hC hc (e := a) (by omega) (by omega)
      have b5 := hE.2.2.2.2.1
      unfold w_X4_doLeaf
      refine ⟨_, u1, u2, a0, by omega, fun v2 e2 _ => ⟨_, u1, u2, a0, by omega, fun v4 e4 _ => ⟨fun z => absurd z (by decide), fun z => absurd z (by decide), fun _ => p_pushT ht tp0 tp1 (Or.inr rfl) hq, fun z => absurd z (by decide), fun z => absurd z (by decide), fun z => absurd z (by decide), fun z => by omega⟩⟩⟩
    · have tr : w_X12_work_b192 (gw_ d) Q 9 R1 := by
        unfold w_X12_work_b192 w_X12_work_b204 w_X12_truth w_X12_truth_b11
        exact ⟨fun z => absurd rfl z, fun _ => ⟨Or.inr rfl, fun z => absurd z (by decide), fun _ => r_giv (l := s) hq⟩⟩
      unfold w_X12_work_b50 w_X12_work_b100
      exact ⟨fun _ => ⟨fun z => absurd z (by decide), fun _ => ⟨fun _ => ⟨fun _ => ⟨fun _ => ⟨fun _ => ⟨fun _ => ⟨fun _ => ⟨fun _ => tr, fun z => absurd rfl z⟩, fun z => absurd z (by decide)⟩, fun z => absurd z (by decide)⟩, fun z => absurd z (by decide)⟩, fun z => absurd z (by decide)⟩, fun z => absurd (by decide) z⟩, fun z => absurd z (by decide)⟩⟩, fun z => absurd (by decide) z⟩
  · refine Sem_leaf 3 10 (by omega) h1 h2 (fun c pc M0 R0 p B vr iv hE a0 a1 x0 x1 hc hn hv => ⟨1, 0, Or.inr (Or.inl ⟨rfl, Or.inl rfl⟩), fun Q M6 tp hC hcv ht tp0 tp1 hq => ?_, fun Q d R1 hR hvr hit hq => ?_⟩)
    · obtain ⟨⟨_, u1, u2, rfl⟩, u4⟩ := c_at hE hC hc (e := a) (by omega) (by omega)
      have b5 := hE.2.2.2.2.1
      unfold w_X4_doLeaf
      refine ⟨_, u1, u2, a0, by omega, fun v2 e2 _ => ⟨_, u1, u2, a0, by omega, fun v4 e4 _ => ⟨fun z => absurd z (by decide), fun z => absurd z (by decide), fun z => absurd z (by decide), fun _ => p_pushT ht tp0 tp1 (Or.inl rfl) hq, fun z => absurd z (by decide), fun z => absurd z (by decide), fun z => by omega⟩⟩⟩
    · have tr : w_X12_work_b192 (gw_ d) Q 10 R1 := by
        unfold w_X12_work_b192 w_X12_work_b204 w_X12_truth w_X12_truth_b11
        exact ⟨fun _ => ⟨Or.inl rfl, fun _ => r_giv (l := s) hq, fun z => absurd rfl z⟩, fun z => absurd z (by decide)⟩
      unfold w_X12_work_b50 w_X12_work_b100
      exact ⟨fun _ => ⟨fun z => absurd z (by decide), fun _ => ⟨fun _ => ⟨fun _ => ⟨fun _ => ⟨fun _ => ⟨fun _ => ⟨fun _ => ⟨fun z => absurd z (by decide), fun _ => ⟨fun z => absurd rfl z, fun _ => tr⟩⟩, fun z => absurd z (by decide)⟩, fun z => absurd z (by decide)⟩, fun z => absurd z (by decide)⟩, fun z => absurd z (by decide)⟩, fun z => absurd (by decide) z⟩, fun z => absurd z (by decide)⟩⟩, fun z => absurd (by decide) z⟩
  · refine Sem_leaf 4 28 (by omega) h1 h2 (fun c pc M0 R0 p B vr iv hE a0 a1 x0 x1 hc hn hv => ?_)
    have hpn : M0 pc 0 = R0 38 p := hE.2.2.2.2.2.2.2.1.1
    have p0 := hE.2.2.2.2.2.2.2.2.1
    have p5 := hE.2.2.2.2.2.2.2.2.2.1
    by_cases lt : P 4 a < M0 pc 0
    · refine ⟨2, P 4 a, Or.inr (Or.inr (Or.inl ⟨rfl, h4, lt⟩)), fun Q M6 tp hC hcv ht tp0 tp1 hq => ?_, fun Q d R1 hR hvr hit hq => ?_⟩
      · obtain ⟨⟨_, u1, u2, rfl⟩, u4⟩ := c_at hE hC hc (e := a) (by omega) (by omega)
        obtain ⟨w1, w2, w3⟩ := q_pic hE hC
        have b5 := hE.2.2.2.2.1
        unfold w_X4_doLeaf w_X4_pushThing w_X4_pushThing_b18 w_X4_pushThing_b29 w_X4_pushThing_b38
        refine ⟨_, u1, u2, a0, by omega, fun v2 e2 _ => ⟨_, u1, u2, a0, by omega, fun v4 e4 _ => ?_⟩⟩
        rw [u4 4 (by omega) (by omega)] at e4
        have w0 := w3 0 (by omega)
        rw [show pc + 0 = pc from rfl] at w0
        exact ⟨fun z => absurd z (by decide), fun z => absurd z (by decide), fun z => absurd z (by decide), fun z => absurd z (by decide), fun _ => ⟨pc, w1, w2, fun v19 e19 _ => ⟨fun z => by rw [w0] at e19; omega, fun _ => ⟨fun z => absurd z (by decide), fun _ => ⟨fun z => absurd z (by decide), fun _ => p_push ht tp0 tp1 (fun M' h => hq M' (by rw [← e4]; exact h))⟩⟩⟩⟩, fun z => absurd z (by decide), fun z => by omega⟩
      · have n70 : R1 70 x = P 4 a := by rw [RBn hR hn (j := 70) (i := x) (by omega) (by omega) (by omega) (by omega), h3]
        have n38 : R1 38 p = M0 pc 0 := (B_e hE hR).1.symm
        unfold w_X12_work_b50 w_X12_work_b100 w_X12_workNumbered
        refine ⟨fun z => absurd z (by decide), fun _ => ⟨fun _ => ⟨fun z => absurd z (by decide), fun _ => ⟨fun _ => ⟨fun _ => ⟨fun _ => ⟨fun _ => ⟨fun _ => ⟨fun _ => ⟨fun z => absurd z (by decide), fun _ => ⟨fun _ => ⟨fun _ => ⟨fun z => absurd rfl z, fun _ => ⟨x0, x1, fun v1 e1 _ v2 e2 _ => ?_⟩⟩, fun z => absurd z (by decide)⟩, fun z => absurd z (by decide)⟩⟩, fun z => absurd z (by decide)⟩, fun z => absurd z (by decide)⟩, fun z => absurd z (by decide)⟩, fun z => absurd z (by decide)⟩, fun z => absurd (by decide) z⟩, fun z => absurd z (by decide)⟩⟩, fun z => absurd (by decide) z⟩⟩
        rw [hR.2.2] at e2
        refine ⟨by omega, by omega, fun v3 e3 _ => ?_⟩
        rw [e2, n38] at e3
        exact ⟨fun z => by omega, fun _ => ⟨x0, x1, fun v7 e7 _ => r_giv (l := s) (fun R' f b1 b2 b3 b4 => hq R' f b1 b2 b3 (by rw [b4, e7, n70]))⟩⟩
    · refine ⟨4, 0, Or.inr (Or.inr (Or.inr (Or.inr ⟨rfl, rfl⟩))), fun Q M6 tp hC hcv ht tp0 tp1 hq => ?_, fun Q d R1 hR hvr hit hq => ?_⟩
      · obtain ⟨⟨_, u1, u2, rfl⟩, u4⟩ := c_at hE hC hc (e := a) (by omega) (by omega)
        obtain ⟨w1, w2, w3⟩ := q_pic hE hC
        have b5 := hE.2.2.2.2.1
        unfold w_X4_doLeaf w_X4_pushThing w_X4_pushThing_b18 w_X4_pushThing_b29 w_X4_pushThing_b38
        refine ⟨_, u1, u2, a0, by omega, fun v2 e2 _ => ⟨_, u1, u2, a0, by omega, fun v4 e4 _ => ?_⟩⟩
        rw [u4 4 (by omega) (by omega)] at e4
        have w0 := w3 0 (by omega)
        rw [show pc + 0 = pc from rfl] at w0
        exact ⟨fun z => absurd z (by decide), fun z => absurd z (by decide), fun z => absurd z (by decide), fun z => absurd z (by decide), fun _ => ⟨pc, w1, w2, fun v19 e19 _ => ⟨fun _ => ⟨fun _ => ⟨fun _ => p_push ht tp0 tp1 hq, fun z => absurd rfl z⟩, fun z => absurd rfl z⟩, fun z => by rw [w0] at e19; omega⟩⟩, fun z => absurd z (by decide), fun z => by omega⟩
      · have n70 : R1 70 x = P 4 a := by rw [RBn hR hn (j := 70) (i := x) (by omega) (by omega) (by omega) (by omega), h3]
        have n38 : R1 38 p = M0 pc 0 := (B_e hE hR).1.symm
        unfold w_X12_work_b50 w_X12_work_b100 w_X12_workNumbered w_X12_nothing
        refine ⟨fun z => absurd z (by decide), fun _ => ⟨fun _ => ⟨fun z => absurd z (by decide), fun _ => ⟨fun _ => ⟨fun _ => ⟨fun _ => ⟨fun _ => ⟨fun _ => ⟨fun _ => ⟨fun z => absurd z (by decide), fun _ => ⟨fun _ => ⟨fun _ => ⟨fun z => absurd rfl z, fun _ => ⟨x0, x1, fun v1 e1 _ v2 e2 _ => ?_⟩⟩, fun z => absurd z (by decide)⟩, fun z => absurd z (by decide)⟩⟩, fun z => absurd z (by decide)⟩, fun z => absurd z (by decide)⟩, fun z => absurd z (by decide)⟩, fun z => absurd z (by decide)⟩, fun z => absurd (by decide) z⟩, fun z => absurd z (by decide)⟩⟩, fun z => absurd (by decide) z⟩⟩
        rw [hR.2.2] at e2
        refine ⟨by omega, by omega, fun v3 e3 _ => ?_⟩
        rw [e2, n38] at e3
        exact ⟨fun _ => r_giv (l := s) hq, fun z => by omega⟩
  · refine Sem_leaf 5 27 (by omega) h1 h2 (fun c pc M0 R0 p B vr iv hE a0 a1 x0 x1 hc hn hv => ⟨2, iv, Or.inr (Or.inr (Or.inl ⟨rfl, hv.2.2.2.2.2 h4⟩)), fun Q M6 tp hC hcv ht tp0 tp1 hq => ?_, fun Q d R1 hR hvr hit hq => ?_⟩)
    · obtain ⟨⟨_, u1, u2, rfl⟩, u4⟩ := c_at hE hC hc (e := a) (by omega) (by omega)
      have b5 := hE.2.2.2.2.1
      unfold w_X4_doLeaf
      refine ⟨_, u1, u2, a0, by omega, fun v2 e2 _ => ?_⟩
      rw [u4 2 (by omega) (by omega), h3] at e2
      refine ⟨_, u1, u2, a0, by omega, fun v4 e4 _ => ⟨fun z => absurd z (by decide), fun z => absurd z (by decide), fun z => absurd z (by decide), fun z => absurd z (by decide), fun z => absurd z (by decide), fun _ => ⟨by omega, by omega, fun v22 e22 _ => p_push ht tp0 tp1 (fun M' h => hq M' (by rw [← hcv.2 h4, ← e2, ← e22]; exact h))⟩, fun z => by omega⟩⟩
    · unfold w_X12_work_b50 w_X12_work_b100
      exact ⟨fun z => absurd z (by decide), fun _ => ⟨fun _ => ⟨fun z => absurd z (by decide), fun _ => ⟨fun _ => ⟨fun _ => ⟨fun _ => ⟨fun _ => ⟨fun z => absurd rfl z, fun _ v17 e17 _ => r_giv (l := s) (fun R' f b1 b2 b3 b4 => hq R' f b1 b2 b3 (by rw [b4, e17, hit h4]))⟩, fun z => absurd z (by decide)⟩, fun z => absurd z (by decide)⟩, fun z => absurd (by decide) z⟩, fun z => absurd z (by decide)⟩⟩, fun z => absurd (by decide) z⟩⟩
  · refine Sem_leaf 5 101 (by omega) h1 h2 (fun c pc M0 R0 p B vr iv hE a0 a1 x0 x1 hc hn hv => ⟨2, vr (N 67 x), Or.inr (Or.inr (Or.inl ⟨rfl, (hv.2.2.2.2.1 _ h3 h4).2.2⟩)), fun Q M6 tp hC hcv ht tp0 tp1 hq => ?_, fun Q d R1 hR hvr hit hq => ?_⟩)
    · obtain ⟨⟨_, u1, u2, rfl⟩, u4⟩ := c_at hE hC hc (e := a) (by omega) (by omega)
      have b5 := hE.2.2.2.2.1
      obtain ⟨w1, w2, -⟩ := hv.2.2.2.2.1 _ h3 h4
      have w3 := hv.2.2.2.1
      unfold w_X4_doLeaf
      refine ⟨_, u1, u2, a0, by omega, fun v2 e2 _ => ?_⟩
      rw [u4 2 (by omega) (by omega), h5] at e2
      refine ⟨_, u1, u2, a0, by omega, fun v4 e4 _ => ⟨fun z => absurd z (by decide), fun z => absurd z (by decide), fun z => absurd z (by decide), fun z => absurd z (by decide), fun z => absurd z (by decide), fun _ => ⟨by omega, by omega, fun v22 e22 _ => p_push ht tp0 tp1 (fun M' h => hq M' (by rw [← hcv.1 _ h3 h4, ← e2, ← e22]; exact h))⟩, fun z => by omega⟩⟩
    · have n67 : R1 67 x = N 67 x := by rw [RBn hR hn (j := 67) (i := x) (by omega) (by omega) (by omega) (by omega)]
      have w4 := hv.2.1
      unfold w_X12_work_b50 w_X12_work_b100
      exact ⟨fun z => absurd z (by decide), fun _ => ⟨fun _ => ⟨fun z => absurd z (by decide), fun _ => ⟨fun _ => ⟨fun _ => ⟨fun _ => ⟨fun z => absurd rfl z, fun _ => ⟨x0, x1, fun v20 e20 _ => ⟨by omega, by omega, fun v21 e21 _ => r_giv (l := s) (fun R' f b1 b2 b3 b4 => hq R' f b1 b2 b3 (by rw [b4, e21, e20, n67]; exact hvr _ h3 h4))⟩⟩⟩, fun z => absurd z (by decide)⟩, fun z => absurd (by decide) z⟩, fun z => absurd z (by decide)⟩⟩, fun z => absurd (by decide) z⟩⟩
