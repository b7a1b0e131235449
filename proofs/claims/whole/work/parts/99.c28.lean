/-! questions worked out: the value of a row -/
def VlC (c : Nat) (M0 : MM) (B e0 e2 tt so v cv : Int) : Prop :=
  ∀ (K : Nat → Int → MM → Prop) (X : MM → Prop), KSq c M0 K X → ∀ (t : Nat) (M : MM) (m r : Int), CB M0 M → SI B M → M 219 6 = 0 → M 219 3 = m → 0 ≤ m → m ≤ 30000 → M 226 0 = tt → M 219 20 = r → 0 ≤ r → r < 4000 → 4 * (30001 - m) ≤ t →
  (m + cv ≤ 30000 → ∀ (t' : Nat) (M' : MM), (t : Int) ≤ t' + 4 * cv + 1 → CB M0 M' → SI B M' → Sm 0 M M' → M' 219 6 = 0 → M' 219 3 = m + cv → M' 219 20 = r + 1 → (∀ k i, 232 ≤ k → k ≤ 234 → i ≠ r → M' k i = M k i) → M' 232 r = tt → M' 233 r = so → M' 234 r = v → K t' e0 M') →
  (30000 < m + cv → ∀ M', CB M0 M' → SI B M' → M' 219 3 = 30001 → X M') → K t e2 M
def EQ (R R' : MM) : Prop := (∀ k, k ∉ [0, 60, 62, 72, 73, 74, 75, 76, 77] → R' k = R k) ∧ (∀ i, i ∉ ([73, 98, 99, 100, 102, 103, 110] : List Int) → R' 0 i = R 0 i) ∧ R' 74 11 = R 74 11 ∧ ∀ i, 48400 ≤ i → R' 73 i = R 73 i
theorem EQ_t {R R1 R2 : MM} (h : EQ R R1) (h' : EQ R1 R2) : EQ R R2 := ⟨fun k hk => by rw [h'.1 k hk, h.1 k hk], fun i hi => by rw [h'.2.1 i hi, h.2.1 i hi], by rw [h'.2.2.1, h.2.2.1], fun i hi => by rw [h'.2.2.2 i hi, h.2.2.2 i hi]⟩
theorem EQ_r (R : MM) : EQ R R := ⟨fun _ _ => rfl, fun _ _ => rfl, rfl, fun _ _ => rfl⟩
theorem EQ_E {l : Int} {R R' : MM} (h : EWr l R R') : EQ R R' := ⟨fun k hk => h.1 k (fun y => hk (by simp only [List.mem_cons, List.not_mem_nil, or_false] at y ⊢; omega)), fun i hi => h.2.1 i (fun y => hi (by simp only [List.mem_cons, List.not_mem_nil, or_false] at y ⊢; omega)), (h.2.2.1 11 (Or.inr rfl)).2, fun i hi => h.2.2.2 i (Or.inr hi)⟩
theorem EQ_u {R : MM} {i v : Int} (hi : i ∈ ([73, 98, 99, 100, 102, 103, 110] : List Int)) : EQ R (ux_ R 0 i v) := ⟨fun k hk => ux_g _ _ _ (fun y => hk (by rw [y]; decide)), fun j hj => ux_i _ _ _ (fun y => hj (by rw [y]; exact hi)), ux_c _ _ _ _ (by decide), fun j _ => ux_c _ _ _ _ (by decide)⟩
theorem EQ_w {R : MM} {k : Nat} {i v : Int} (k0 : 75 ≤ k) (k1 : k ≤ 77) : EQ R (ux_ R k i v) := ⟨fun j hj => ux_g _ _ _ (fun y => hj (by rw [y]; simp; omega)), fun j _ => ux_c _ _ _ _ (by omega), ux_c _ _ _ _ (by omega), fun j _ => ux_c _ _ _ _ (by omega)⟩
theorem RB0_Q {p : Int} {R0 R R' : MM} (h : RB0 p R0 R) (hF : EQ R R') : RB0 p R0 R' := RB0_m h (fun k hk => hF.1 k (fun y => hk (by simp only [List.mem_cons, List.not_mem_nil, or_false] at y ⊢; omega))) (hF.2.1 20 (by decide)) (hF.2.1 97 (by decide))
def VlR (R0 : MM) (p x4 tt so v cv : Int) : Prop :=
  ∀ (R : MM) (m r : Int), RB0 p R0 R → R 0 98 = m → 0 ≤ m → m ≤ 30000 → R 0 103 = 0 → R 0 101 = 0 → R 0 100 = tt → R 0 110 = r → 0 ≤ r → r < 4000 → ∀ (Q : Int → MM → Prop) (K15 : Int → Int → Int → MM → Prop) (x3 i : Int), 0 ≤ i → i ≤ 5000 →
  (m + cv ≤ 30000 → ∀ R', EQ R R' → R' 0 98 = m + cv → R' 0 103 = 0 → R' 0 110 = r + 1 → (∀ k j, 75 ≤ k → k ≤ 77 → j ≠ r → R' k j = R k j) → R' 75 r = tt → R' 76 r = so → R' 77 r = v → K15 x3 x4 (i + 1) R') → (30000 < m + cv → ∀ R', EQ R R' → R' 0 103 = 1 → K15 x3 x4 (i + 1) R') → w_X12_answerAll_b102 Q K15 x3 x4 i R
theorem r_row {Q : Int → MM → Prop} {K15 : Int → Int → Int → MM → Prop} {x3 x4 i r tt so v : Int} {R : MM} (i0 : 0 ≤ i) (i1 : i ≤ 5000) (h100 : R 0 100 = tt) (h110 : R 0 110 = r) (r0 : 0 ≤ r) (r1 : r < 4000) (h99 : R 0 99 = so) (h102 : R 0 102 = v) (hq : ∀ R', EQ R R' → R' 0 98 = R 0 98 → R' 0 103 = R 0 103 → R' 0 110 = r + 1 → (∀ k j, 75 ≤ k → k ≤ 77 → j ≠ r → R' k j = R k j) → R' 75 r = tt → R' 76 r = so → R' 77 r = v → K15 x3 x4 (i + 1) R') : w_X12_answerAll_b124 Q K15 x3 x4 i R := by
  unfold w_X12_answerAll_b124 w_X12_answerAll_b173
  intro v1 e1 _ v2 e2 _
  rw [h110] at e1
  rw [h100] at e2
  rw [e1, e2]
  refine ⟨r0, by omega, fun M3 e3 v4 e4 _ v5 e5 _ => ?_⟩
  rw [e3, ux_c _ _ _ _ (by decide), h110] at e4
  rw [e3, ux_c _ _ _ _ (by decide), h99] at e5
  rw [e4, e5]
  refine ⟨r0, by omega, fun M6 e6 v7 e7 _ v8 e8 _ => ?_⟩
  rw [e6, ux_c _ _ _ _ (by decide), e3, ux_c _ _ _ _ (by decide), h110] at e7
  rw [e6, ux_c _ _ _ _ (by decide), e3, ux_c _ _ _ _ (by decide), h102] at e8
  rw [e7, e8]
  refine ⟨r0, by omega, fun M9 e9 v10 e10 _ => ?_⟩
  rw [e9, ux_c _ _ _ _ (by decide), e6, ux_c _ _ _ _ (by decide), e3, ux_c _ _ _ _ (by decide), h110] at e10
  rw [e10]
  refine ⟨by unfold ri_; omega, fun M12 e12 => ⟨by unfold ri_; omega, hq M12 ?_ ?_ ?_ (by rw [e12, ux_s]) (fun k j a b d => ?_) ?_ ?_ ?_⟩⟩
  · rw [e12]
    refine EQ_t ?_ (EQ_u (by decide))
    rw [e9]
    refine EQ_t ?_ (EQ_w (by omega) (by omega))
    rw [e6]
    refine EQ_t ?_ (EQ_w (by omega) (by omega))
    rw [e3]
    exact EQ_w (by omega) (by omega)
  · rw [e12, ux_i _ _ _ (by decide), e9, ux_c _ _ _ _ (by decide), e6, ux_c _ _ _ _ (by decide), e3, ux_c _ _ _ _ (by decide)]
  · rw [e12, ux_i _ _ _ (by decide), e9, ux_c _ _ _ _ (by decide), e6, ux_c _ _ _ _ (by decide), e3, ux_c _ _ _ _ (by decide)]
  · rw [e12, ux_c _ _ _ _ (by omega), e9]
    by_cases y4 : k = 77
    · rw [y4, ux_i _ _ _ d, e6, ux_c _ _ _ _ (by decide), e3, ux_c _ _ _ _ (by decide)]
    · rw [ux_c _ _ _ _ y4, e6]
      by_cases y3 : k = 76
      · rw [y3, ux_i _ _ _ d, e3, ux_c _ _ _ _ (by decide)]
      · have y2 : k = 75 := by omega
        rw [ux_c _ _ _ _ y3, e3, y2, ux_i _ _ _ d]
  · rw [e12, ux_c _ _ _ _ (by decide), e9, ux_c _ _ _ _ (by decide), e6, ux_c _ _ _ _ (by decide), e3, ux_s]
  · rw [e12, ux_c _ _ _ _ (by decide), e9, ux_c _ _ _ _ (by decide), e6, ux_s]
  · rw [e12, ux_c _ _ _ _ (by decide), e9, ux_s]
theorem vl_spec {P : CD} {N : MM} {c pc : Nat} {M0 R0 : MM} {p B x4 a b lo hi e0 e2 e3 loV hiV tt : Int} {sf : Int → Int} (hE : EnvQ c pc M0 R0 p B) (c211 : M0 219 2 = 211) (a0 : 0 ≤ a) (b5 : b ≤ M0 c 5) (lo0 : 0 ≤ lo) (h480 : hi ≤ 480) (hc : cAg P M0 c a b) (hn : nAg N R0 lo hi) (hu : UsQ P a b M0 R0 pc p) (t0 : 0 ≤ tt) (t1 : tt < M0 pc 0) (lV : lo ≤ loV) (hV' : hiV ≤ hi) (hz : hi - lo ≤ 120) (ea : a ≤ e2) (eb : e3 < b)
    (h : x4 = -1 ∧ e3 = e2 ∧ P 1 e3 = 41 ∨ 0 ≤ x4 ∧ P 1 e3 = 40 ∧ Sem P N 0 sf 0 1 x4 e2 e3 loV hiV) (p3 : P 3 e3 = e0) : ∃ so v cv, 0 ≤ cv ∧ VlC c M0 B e0 e2 tt so v cv ∧ VlR R0 p x4 tt so v cv := by
  have b50 := hE.2.2.2.2.1
  have rw_ : a ≤ e3 → ∀ {so v r : Int} (K : Nat → Int → MM → Prop) (X : MM → Prop), KSq c M0 K X → ∀ (t : Nat) (M : MM), CB M0 M → SI B M → (P 1 e3 = 41 ∧ M 219 6 = 0 ∧ so = 2 ∧ v = M 226 0 ∨ P 1 e3 = 40 ∧ M 219 6 = 1 ∧ M 220 0 = so ∧ M 221 0 = v) → M 219 3 ≤ 30000 → M 219 20 = r → 0 ≤ r → r < 4000 → (∀ M', CB M0 M' → SI B M' → RwP r (M 226 0) so v M M' → K t e0 M') → K (t + 1) e3 M := by
    intro ae so v r K X hK t M hC hS h6 hm hr r0 r1 hq
    have o3 : 40 ≤ P 1 e3 ∧ P 1 e3 ≤ 41 := by omega
    refine K_qt (o := P 1 e3) hE hK hC hm (by omega) (by omega) (hc 1 e3 (by omega) (by omega) ae eb) (by omega) ?_
    unfold w_X4_jump
    refine ⟨fun z => by omega, fun z => by omega, fun z => by omega, fun z => by omega, fun z => by omega, fun z => by omega, fun z => by omega, fun _ => ?_⟩
    have fin : ∀ M', RwP r (M 226 0) so v M M' → ∃ c46 : Nat, M' 219 2 = (c46 : Int) ∧ isG c46 ∧ (0 ≤ e3 ∧ e3 < 500 ∧ (∀ v47, v47 = M' (c46 + 3) e3 → ri_ v47 → (fun r5 M6 => ri_ r5 → (fun r M8 => ri_ r → K t r M8) r5 M6) v47 M')) := fun M' hR => by
      have hC' : CB M0 M' := ⟨fun k hk => by rw [hR.1 k (by simp; omega)]; exact hC.1 k hk, fun i x y w => by rw [hR.2.1 i y (by omega)]; exact hC.2 i x y w⟩
      have hS' : SI B M' := SI_w hS (hR.1 230 (by decide)) (hR.1 231 (by decide)) (hR.2.1 3 (by decide) (by decide)) (fun g _ _ hh => by rw [hR.1 223 (by decide)]; exact hh)
      obtain ⟨⟨c', u1, u2, hcc⟩, u4⟩ := c_at hE hC' hc (e := e3) ae eb
      rw [hcc] at u1 u2
      refine ⟨_, u1, u2, by omega, by omega, fun w ew _ _ _ => ?_⟩
      rw [u4 3 (by omega) (by omega), p3] at ew
      rw [ew]; exact hq M' hC' hS' hR
    unfold w_X4_addRow
    refine ⟨fun z => ?_, fun z w ew _ => ?_⟩
    · obtain ⟨q1, q2, q3⟩ : M 219 6 = 1 ∧ M 220 0 = so ∧ M 221 0 = v := by
        rcases h6 with ⟨y, -⟩ | ⟨-, y⟩
        · exact absurd y z
        · exact y
      exact c_row18 (fun _ _ => rfl) (fun _ _ => rfl) q1 hr r0 r1 hm q2 q3 fin
    · obtain ⟨q1, q2, q3⟩ : M 219 6 = 0 ∧ so = 2 ∧ v = M 226 0 := by
        rcases h6 with ⟨-, y⟩ | ⟨y, -⟩
        · exact y
        · omega
      refine p_push q1 (by omega) (by omega) (fun M1 hM => c_row18 (so := so) (v := v) (fun k hk => hM.1 k (fun y => hk (by rw [y]; decide)) (fun y => hk (by rw [y]; decide)) (fun y => hk (by rw [y]; decide))) (fun i hi => hM.2.1 i hi) (by rw [hM.2.2.1]; omega) hr r0 r1 hm ?_ ?_ fin)
      · rw [hM.2.2.2.2.1]; exact q2.symm
      · rw [hM.2.2.2.2.2, ew]; exact q3.symm
  have sm : ∀ {r so v : Int} {M M' : MM}, RwP r (M 226 0) so v M M' → Sm 0 M M' := fun hR => ⟨fun k a b => by rw [hR.1 k (by simp; omega)], fun k i a b _ _ => by rw [hR.1 k (by simp; omega)], by rw [hR.1 231 (by decide)]⟩
  rcases h with ⟨w1, w2, w3⟩ | ⟨w1, w2, w3⟩
  · refine ⟨2, tt, 0, by omega, fun K X hK t M m r hC hS h6 hm m0 m1 h226 hr r0 r1 ht hq hx => ?_, fun R m r hR hm m0 m1 h103 h101 h100 h110 r0 r1 Q K15 x3 i i0 i1 hq hx => ?_⟩
    · obtain ⟨t, rfl⟩ : ∃ t', t = t' + 1 := ⟨t - 1, by omega⟩
      rw [← w2]
      exact rw_ (by omega) K X hK t M hC hS (Or.inl ⟨w3, h6, rfl, h226.symm⟩) (by omega) hr r0 r1 (fun M' a1 a2 a3 => hq (by omega) t M' (by omega) a1 a2 (sm a3) a3.2.2.1 (by rw [a3.2.1 3 (by decide) (by decide)]; omega) a3.2.2.2.1 a3.2.2.2.2.1 (by rw [a3.2.2.2.2.2.1]; exact h226) a3.2.2.2.2.2.2.1 a3.2.2.2.2.2.2.2)
    · unfold w_X12_answerAll_b102
      intro v1 e1 _
      rw [h100] at e1
      rw [e1]
      refine r_giv (l := 0) (fun R1 f1 b1 b2 b3 b4 => ⟨fun _ => r_row i0 i1 (by rw [f1.2.1 100 (by decide)]; exact h100) (by rw [f1.2.1 110 (by decide)]; exact h110) r0 r1 b3 b4 (fun R' d1 d2 d3 d4 d5 d6 d7 d8 => hq (by omega) R' (EQ_t (EQ_E f1) d1) (by rw [d2, b1]; omega) (by rw [d3, b2]; exact h103) d4 (fun k j x y z => by rw [d5 k j x y z, f1.1 k (by simp; omega)]) d6 d7 d8), fun y => absurd w1 y⟩)
  · obtain ⟨q1, q2, q3, q4, q5, q6⟩ := w3
    have hv : vOK (M0 pc 0) 0 sf 0 1 (fun _ => 0) tt := ⟨by omega, by omega, by omega, by omega, fun i i0 i1 => by omega, fun _ => ⟨t0, t1⟩⟩
    obtain ⟨so, v, c1, hVV, hc1, hC1, hR1⟩ := q6 c pc M0 R0 p B (fun _ => 0) tt hE (by omega) (by omega) (by omega) (by omega) (fun j i j0 j4 i0 i1 => hc j i j0 j4 (by omega) (by omega)) (nAg_s hn (by omega) (by omega)) ⟨fun i i0 i1 => hu.1 i (by omega) (by omega), fun i i0 i1 => hu.2 i (by omega) (by omega)⟩ hv
    refine ⟨so, v, c1, by omega, fun K X hK t M m r hC hS h6 hm m0 m1 h226 hr r0 r1 ht hq hx => ?_, fun R m r hR hm m0 m1 h103 h101 h100 h110 r0 r1 Q K15 x3 i i0 i1 hq hx => ?_⟩
    · refine hC1 K X hK t M 0 m hC hS h6 (by omega) (by omega) hm m0 m1 ⟨fun i i0 i1 => by omega, fun _ => h226⟩ ht (fun hc30 t1' M1 ht1 hF1 hS1 h61 hs1 hv1 hm1 => ?_) hx
      have hC1' := CB_F hC hF1
      obtain ⟨t1', rfl⟩ : ∃ t', t1' = t' + 1 := ⟨t1' - 1, by omega⟩
      have k226 : M1 226 0 = tt := by rw [hF1.2.2.2.1 226 0 (by omega) (by omega) (Int.le_refl _)]; exact h226
      exact rw_ (by omega) K X hK t1' M1 hC1' hS1 (Or.inr ⟨w2, by omega, hs1, hv1⟩) (by omega) (by rw [hF1.2.1 20 (by decide) (by decide)]; exact hr) r0 r1 (fun M' a1 a2 a3 => hq (by omega) t1' M' (by omega) a1 a2 (Sm_t (EWc_Sm hF1) (sm a3)) a3.2.2.1 (by rw [a3.2.1 3 (by decide) (by decide)]; exact hm1) a3.2.2.2.1 (fun k j x y z => by rw [a3.2.2.2.2.1 k j x y z, hF1.1 k (by omega)]) (by rw [a3.2.2.2.2.2.1]; exact k226) a3.2.2.2.2.2.2.1 a3.2.2.2.2.2.2.2)
    · unfold w_X12_answerAll_b102
      intro v1 e1 _
      rw [h100] at e1
      rw [e1]
      refine r_giv (l := 0) (fun R1 f1 b1 b2 b3 b4 => ⟨fun y => by omega, fun _ => ?_⟩)
      unfold w_X12_work
      refine hR1 300 R1 m (by omega) (RB0_F hR f1) (by rw [b1]; exact hm) m0 m1 (by rw [b2]; exact h103) (by rw [f1.2.1 101 (by decide)]; exact h101) (fun i i0 i1 => by omega) (fun _ => by rw [f1.2.1 100 (by decide)]; exact h100) _ (fun zc R2 f2 d1 d2 d3 d4 => ?_) (fun zc R2 f2 d2 d9 => ?_)
      · have F12 := EWr_t f1 f2 (Int.le_refl _)
        exact r_row i0 i1 (by rw [F12.2.1 100 (by decide)]; exact h100) (by rw [F12.2.1 110 (by decide)]; exact h110) r0 r1 d3 d4 (fun R' g1 g2 g3 g4 g5 g6 g7 g8 => hq zc R' (EQ_t (EQ_E F12) g1) (by rw [g2]; exact d1) (by rw [g3]; exact d2) g4 (fun k j x y z => by rw [g5 k j x y z, F12.1 k (by simp; omega)]) g6 g7 g8)
      · have F12 := EWr_t f1 f2 (Int.le_refl _)
        exact r_row (tt := tt) (r := r) (so := 4) (v := R2 0 102) i0 i1 (by rw [F12.2.1 100 (by decide)]; exact h100) (by rw [F12.2.1 110 (by decide)]; exact h110) r0 r1 d9 rfl (fun R' g1 g2 g3 g4 g5 g6 g7 g8 => hx zc R' (EQ_t (EQ_E F12) g1) (by rw [g3]; exact d2))
