/-! root, on both sides -/
theorem ln_eq {C C' : MM} (h16 : C' 16 = C 16) (h27 : C' 27 = C 27) (h28 : C' 28 = C 28) : ln C' = ln C := by
  funext o
  unfold ln
  rw [so_eq h16, h27, h28]
theorem sm_eq {C C' : MM} (h16 : C' 16 = C 16) (h27 : C' 27 = C 27) (h28 : C' 28 = C 28) : sm C' = sm C := by
  funext n
  induction n with
  | zero => rfl
  | succ n ih =>
    show sm C' n + (if C' 27 n = -1 then 0 else ln C' n) = sm C n + (if C 27 n = -1 then 0 else ln C n)
    rw [ih, h27, ln_eq h16 h27 h28]
theorem ct_eq {C C' : MM} (h27 : C' 27 = C 27) : ct C' = ct C := by
  funext n
  induction n with
  | zero => rfl
  | succ n ih =>
    show ct C' n + (if C' 27 n = -1 then 0 else 1) = ct C n + (if C 27 n = -1 then 0 else 1)
    rw [ih, h27]
theorem hOk_eq {C C' : MM} (h26 : C' 26 1 = C 26 1) (h27 : C' 27 = C 27) : hOk C' = hOk C := by
  funext o
  unfold hOk
  rw [h26, h27]
theorem vL_eq {C C' : MM} (h11 : C' 11 = C 11) (h26 : C' 26 1 = C 26 1) (h27 : C' 27 = C 27) : vL C' = vL C := by
  funext v w
  unfold vL
  rw [hOk_eq h26 h27, h27]
  exact propext (or_congr Iff.rfl (and_congr Iff.rfl (ft_eq h11 _ _)))
theorem vK_eq {C C' : MM} (h11 : C' 11 = C 11) (h26 : C' 26 1 = C 26 1) (h27 : C' 27 = C 27) : vK C' = vK C := by
  funext k w v
  unfold vK
  rw [vL_eq h11 h26 h27]
theorem kA_fe {C C' : MM} (h : C' 24 = C 24) : kA C' = kA C := funext fun t => funext fun s => kA_eq h t s
theorem lA_fe {C C' : MM} (h : C' 25 = C 25) : lA C' = lA C := funext fun t => funext fun s => lA_eq h t s
/-- the same things, whatever the roots -/
theorem Rhp_C {C R C' R' : MM} (h : Rhp C R) (c : ∀ k, k ∈ [11, 12, 14, 16, 19, 20, 21, 24, 25, 27, 28, 29, 30, 31, 32] → C' k = C k) (c8 : C' 8 0 = C 8 0) (c26 : ∀ i, i ∈ ([1, 2, 3] : List Int) → C' 26 i = C 26 i) (r : ∀ k, k ∈ [6, 19, 20, 21, 22, 23] → R' k = R k) (r0 : ∀ i, i ∈ ([26, 27, 28] : List Int) → R' 0 i = R 0 i) (hr : Rrt C' R') : Rhp C' R' := by
  have q1 := c26 1 (by decide)
  have k27 := c 27 (by decide)
  have e1 := ln_eq (c 16 (by decide)) k27 (c 28 (by decide))
  have e2 := sm_eq (c 16 (by decide)) k27 (c 28 (by decide))
  have e3 := ct_eq (C := C) (C' := C') k27
  have e4 := vK_eq (c 11 (by decide)) q1 k27
  have e5 := vL_eq (c 11 (by decide)) q1 k27
  obtain ⟨h1, h2, h3, h4, h5, h6, h7, h8, h9, h10, h11, h12, h13, h14⟩ := h
  refine ⟨?_, ?_, ?_, ?_, ?_, ?_, ?_, ?_, ?_, ?_, ?_, hr, ?_, ?_⟩
  · rw [q1, r0 26 (by decide)]; exact h1
  · rw [q1]; exact h2
  · rw [q1]; exact h3
  · rw [c26 2 (by decide), q1, e3]; exact h4
  · rw [c26 3 (by decide), r0 28 (by decide)]; exact h5
  · rw [c26 3 (by decide), q1, e2]; exact h6
  · rw [c26 3 (by decide)]; exact h7
  · rw [r0 27 (by decide)]; exact h8
  · rw [q1, r0 27 (by decide)]; exact h9
  · rw [q1]
    intro o o0 o1
    have := h10 o o0 o1
    unfold Rob at this ⊢
    rw [k27, c 28 (by decide), c 29 (by decide), c 30 (by decide), c 31 (by decide), c 12 (by decide), c8, e1, e2, e4, kA_fe (c 24 (by decide)), lA_fe (c 25 (by decide)), r 19 (by decide), r 20 (by decide), r 21 (by decide), r 22 (by decide), r 23 (by decide), r0 27 (by decide)]
    exact this
  · rw [q1, k27, e1, r 21 (by decide)]; exact h11
  · unfold Rst at h13 ⊢; rw [c 32 (by decide), r 6 (by decide)]; exact h13
  · unfold Rsv at h14 ⊢; rw [c8, c 14 (by decide), c 19 (by decide), c 20 (by decide), c 21 (by decide), c 32 (by decide), e5]; exact h14
theorem p_R_drop {Q : Int → MM → Prop} {p : Int} {R : MM} (p0 : 0 ≤ p) (p1 : p < R 0 31) (p2 : R 0 31 ≤ 12) (h : Q 0 (ux_ (shf R 24 p (R 0 31 - 1)) 0 31 (R 0 31 - 1))) : w_X12_root_b108 Q p R := by
  refine loop2 _ (fun k M1 => p ≤ k ∧ k ≤ R 0 31 - 1 ∧ M1 = shf R 24 p k) (fun k _ => (R 0 31 - k).toNat) ?_ _ _ ⟨by omega, by omega, (shf_0 _ _ _).symm⟩
  rintro k M1 f ⟨k0, k1, hM⟩ ih
  have e31 : M1 0 31 = R 0 31 := by rw [hM]; simp [shf]
  unfold wb_X12_root_b108
  refine ⟨by unfold ri_; omega, fun v e g => ?_⟩
  rw [e31] at e
  subst e
  refine ⟨fun z v4 e4 g4 => ?_, fun z => ⟨by unfold ri_; omega, by omega, by omega, fun v8 e8 g8 => ⟨by omega, by omega, fun M9 e9 => ⟨by unfold ri_; omega, ih _ _ ⟨by omega, by omega, ?_⟩ (by omega)⟩⟩⟩⟩
  · rw [e31] at e4
    subst e4
    refine ⟨by unfold ri_; omega, fun M6 e6 => ?_⟩
    have : k = R 0 31 - 1 := by omega
    rw [e6, hM, this]; exact h
  · rw [e9, e8, hM]; exact shf_step _ _ _ _ k0
set_option maxHeartbeats 400000 in
theorem t_root {C R : MM} {o b : Int} (hb : b = 0 ∨ b = 1) (h : RB C R) : w_X11_root (fun r C' => w_X12_root (fun r' R' => R' 0 0 = 0 ∧ RB C' R' ∧ (∀ k, k ∉ [26, 33] → C' k = C k) ∧ (∀ i, i ≠ 11 → C' 26 i = C 26 i) ∧ (∀ k, k ∉ [0, 24] → R' k = R k) ∧ (∀ i, i ∉ ([0, 31] : List Int) → R' 0 i = R 0 i)) o b R) (fun E C' => C' = C ∧ w_X12_root (fun r' R' => R' = ux_ R 0 0 (if E = "java/lang/IllegalStateException" then 2 else 1)) o b R) o b C := by
  have hB := h
  obtain ⟨hA, hL, hH⟩ := h
  have hRt := hH.2.2.2.2.2.2.2.2.2.2.2.1
  obtain ⟨g1, g2, g3, g4, g5⟩ := hRt
  have e00 : ∀ x, ux_ R 0 0 x 0 0 = x := fun x => ux_s _ _ _ _
  have eO : ∀ x k, k ≠ 0 → ux_ R 0 0 x k = R k := fun x k hk => funext fun i => ux_c _ _ _ _ hk
  have e31 : ∀ x, ux_ R 0 0 x 0 31 = C 26 11 := fun x => by rw [ux_i _ _ _ (by decide)]; exact g1.symm
  have h24 : ∀ k, 0 ≤ k → k < C 26 11 → (R 24 k = o ↔ C 33 k = o) := fun k k0 k1 => by rw [(g4 k k0 k1).1]
  -- the reference's start, of a thing that is there
  have start : hOk C o → ∀ Q : Int → MM → Prop, (∀ at', (0 ≤ at' ∧ at' < C 26 11 ∧ C 33 at' = o) ∨ (at' = -1 ∧ ∀ k, 0 ≤ k → k < C 26 11 → C 33 k ≠ o) → (¬ (b ≠ 0 ∧ at' = -1 ∧ C 26 11 = 12) → w_X12_root_b55 Q o b at' 0 (ux_ R 0 0 0)) ∧ (b ≠ 0 ∧ at' = -1 ∧ C 26 11 = 12 → w_X12_root_b55 Q o b at' 2 (ux_ R 0 0 0))) → w_X12_root Q o b R := by
    intro ho Q hq
    unfold w_X12_root
    refine p_R_isObject hH (fun _ _ => ⟨fun q => by omega, fun _ => ?_⟩) (fun q => absurd ho q)
    unfold w_X12_root_b14
    intro M1 e1 v2 e2 g2'
    have : v2 = 0 := by rw [e2, e1, ux_s]
    refine ⟨fun _ => ?_, fun q => by omega⟩
    subst e1
    have fin : ∀ at', (0 ≤ at' ∧ at' < C 26 11 ∧ C 33 at' = o) ∨ (at' = -1 ∧ ∀ k, 0 ≤ k → k < C 26 11 → C 33 k ≠ o) → ri_ at' → (b = 0 → w_X12_root_b54 Q o b at' (ux_ R 0 0 0)) ∧ (¬ b = 0 → (¬ at' = (-1) → w_X12_root_b54 Q o b at' (ux_ R 0 0 0)) ∧ (at' = (-1) → (∀ v8, v8 = ux_ R 0 0 0 0 31 → ri_ v8 → (¬ v8 = 12 → w_X12_root_b54 Q o b at' (ux_ R 0 0 0)) ∧ (v8 = 12 → w_X12_root_b55 Q o b at' 2 (ux_ R 0 0 0))))) := by
      intro at' ha _
      obtain ⟨q1, q2⟩ := hq at' ha
      unfold w_X12_root_b54
      refine ⟨fun z => q1 (fun q => q.1 z), fun z => ⟨fun z2 => q1 (fun q => z2 q.2.1), fun z2 v8 e8 g8 => ?_⟩⟩
      rw [e31] at e8
      subst e8
      exact ⟨fun z3 => q1 (fun q => z3 q.2.2), fun z3 => q2 ⟨z, z2, z3⟩⟩
    refine p_R_rootAt (by rw [e31]; exact g2) (by rw [e31]; exact g3) (fun k k0 k1 k2 => fin k (Or.inl ?_)) (fun hn => fin (-1) (Or.inr ⟨rfl, fun k k0 k1 q => ?_⟩))
    · rw [e31] at k1
      rw [eO 0 24 (by decide)] at k2
      exact ⟨k0, k1, (h24 k k0 k1).mp k2⟩
    · refine hn k k0 (by rw [e31]; exact k1) ?_
      rw [eO 0 24 (by decide)]
      exact (h24 k k0 k1).mpr q
  have uniq : ∀ j k, 0 ≤ j → j < C 26 11 → C 33 j = o → 0 ≤ k → k < C 26 11 → C 33 k = o → j = k := by
    intro j k j0 j1 j2 k0 k1 k2
    by_cases q : j < k
    · exact absurd (by rw [j2, k2]) (g5 j k j0 q k1)
    · by_cases q2 : k < j
      · exact absurd (by rw [j2, k2]) (g5 k j k0 q2 j1)
      · omega
  have same : ∀ Q : Int → MM → Prop, Q 0 (ux_ R 0 0 0) → ∀ at', (b ≠ 0 ∧ at' ≠ -1) ∨ (b = 0 ∧ at' = -1) → w_X12_root_b55 Q o b at' 0 (ux_ R 0 0 0) := by
    intro Q hq at' ha
    unfold w_X12_root_b55
    intro M1 e1 v2 e2 _
    rw [uu00] at e1
    have : v2 = 0 := by rw [e2, e1, ux_s]
    have hz : w_X12_root_b95 Q b at' M1 := by
      unfold w_X12_root_b95
      rw [e1]
      exact ⟨fun _ => hq, fun z => ⟨fun z2 => by omega, fun _ => hq⟩⟩
    exact ⟨fun _ => ⟨fun _ => hz, fun z => ⟨fun _ => hz, fun z2 => by omega⟩⟩, fun q => by omega⟩
  unfold w_X11_root
  refine p_isThere hH.2.2.1 (fun ho _ => ⟨fun _ => ?_, fun q => by omega⟩) (fun ho _ => ⟨fun q => absurd rfl q, fun _ => ⟨rfl, ?_⟩⟩)
  · have fine : ∀ Q : Int → MM → Prop, Q 0 (ux_ R 0 0 0) → ∀ at9, ((b ≠ 0 ∧ at9 ≠ -1) ∨ (b = 0 ∧ at9 = -1)) → ((0 ≤ at9 ∧ at9 < C 26 11 ∧ C 33 at9 = o) ∨ (at9 = -1 ∧ ∀ k, 0 ≤ k → k < C 26 11 → C 33 k ≠ o)) → w_X12_root Q o b R := by
      intro Q hq at9 h9 h8
      refine start ho Q fun at' ha => ?_
      have : at' = at9 := by
        rcases ha with ⟨a, b, c⟩ | ⟨a, b⟩
        · rcases h8 with ⟨d, e, f⟩ | ⟨d, e⟩
          · exact uniq _ _ a b c d e f
          · exact absurd c (e _ a b)
        · rcases h8 with ⟨d, e, f⟩ | ⟨d, e⟩
          · exact absurd f (b _ d e)
          · rw [a, d]
      subst this
      exact ⟨fun _ => same Q hq at' h9, fun q => by omega⟩
    have fineC : w_X12_root (fun r' R' => R' 0 0 = 0 ∧ RB C R' ∧ (∀ k, k ∉ [26, 33] → C k = C k) ∧ (∀ i, i ≠ 11 → C 26 i = C 26 i) ∧ (∀ k, k ∉ [0, 24] → R' k = R k) ∧ (∀ i, i ∉ ([0, 31] : List Int) → R' 0 i = R 0 i)) o b R → True := fun _ => trivial
    have ok0 : (fun (r' : Int) (R' : MM) => R' 0 0 = 0 ∧ RB C R' ∧ (∀ k, k ∉ [26, 33] → C k = C k) ∧ (∀ i, i ≠ 11 → C 26 i = C 26 i) ∧ (∀ k, k ∉ [0, 24] → R' k = R k) ∧ (∀ i, i ∉ ([0, 31] : List Int) → R' 0 i = R 0 i)) 0 (ux_ R 0 0 0) := by
      refine ⟨ux_s _ _ _ _, RB_00 hB 0, fun _ _ => rfl, fun _ _ => rfl, fun k hk => eO 0 k (fun q => hk (by rw [q]; decide)), fun i hi => ux_i _ _ _ (fun q => hi (by rw [q]; decide))⟩
    refine p_rootPlace g2 g3 (fun k k0 k1 k2 _ => ⟨fun z => ?_, fun z => ⟨fun z2 => ?_, fun z2 => by omega⟩⟩) (fun hno _ => ⟨fun z => ?_, fun z => ⟨fun q => absurd rfl q, fun _ v8 e8 g8 => ?_⟩⟩)
    · -- a root is taken away
      unfold w_X11_root_b86
      refine ⟨fun q => absurd z q, fun _ => ⟨fun q => by omega, fun _ => p_dropRoot k0 k1 g3 ?_⟩⟩
      refine start ho _ fun at' ha => ?_
      have : at' = k := by
        rcases ha with ⟨a, b, c⟩ | ⟨a, b⟩
        · exact uniq _ _ a b c k0 k1 k2
        · exact absurd k2 (b k k0 k1)
      subst this
      refine ⟨fun _ => ?_, fun q => absurd z q.1⟩
      unfold w_X12_root_b55
      intro M1 e1 v2 e2 _
      rw [uu00] at e1
      have : v2 = 0 := by rw [e2, e1, ux_s]
      refine ⟨fun _ => ⟨fun _ => ?_, fun q => absurd z q⟩, fun q => by omega⟩
      unfold w_X12_root_b95
      refine ⟨fun q => absurd z q, fun _ => ⟨fun _ => ?_, fun q => by omega⟩⟩
      subst e1
      refine p_R_drop k0 (by rw [e31]; exact k1) (by rw [e31]; exact g3) ?_
      rw [e31]
      have c' : ∀ k, k ∉ [26, 33] → shf (ux_ C 26 11 (C 26 11 - 1)) 33 at' (C 26 11 - 1) k = C k := by
        intro k hk
        funext i
        unfold shf
        rw [if_neg (fun q => hk (by rw [q.1]; decide)), ux_c _ _ _ _ (fun q => hk (by rw [q]; decide))]
      have c26 : ∀ i, i ≠ 11 → shf (ux_ C 26 11 (C 26 11 - 1)) 33 at' (C 26 11 - 1) 26 i = C 26 i := by
        intro i hi
        unfold shf
        rw [if_neg (by omega), ux_i _ _ _ hi]
      have c11 : shf (ux_ C 26 11 (C 26 11 - 1)) 33 at' (C 26 11 - 1) 26 11 = C 26 11 - 1 := by
        unfold shf
        rw [if_neg (by omega), ux_s]
      have r' : ∀ k, k ∉ [0, 24] → ux_ (shf (ux_ R 0 0 0) 24 at' (C 26 11 - 1)) 0 31 (C 26 11 - 1) k = R k := by
        intro k hk
        funext i
        have k0 : k ≠ 0 := fun q => hk (by rw [q]; decide)
        rw [ux_c _ _ _ _ k0]
        unfold shf
        rw [if_neg (fun q => hk (by rw [q.1]; decide)), ux_c _ _ _ _ k0]
      have r0 : ∀ i, i ∉ ([0, 31] : List Int) → ux_ (shf (ux_ R 0 0 0) 24 at' (C 26 11 - 1)) 0 31 (C 26 11 - 1) 0 i = R 0 i := by
        intro i hi
        rw [ux_i _ _ _ (fun q => hi (by rw [q]; decide))]
        unfold shf
        rw [if_neg (by omega), ux_i _ _ _ (fun q => hi (by rw [q]; decide))]
      refine ⟨?_, ⟨?_, ?_, ?_⟩, c', c26, r', r0⟩
      · rw [ux_i _ _ _ (by decide)]
        unfold shf
        rw [if_neg (by omega), ux_s]
      · refine RA_R (RA_of hA (by rw [c' 1 (by decide)]) (fun k i a b _ _ _ => by rw [c' k (by simp; omega)]) (fun k i _ _ => rfl) rfl rfl) (fun k a b _ => r' k (by simp; omega)) (fun i hi => r0 i (by revert hi; simp; omega))
      · exact Rlk_of hL (by rw [c' 8 (by decide)]) (c' 14 (by decide)) (c' 19 (by decide)) (c' 20 (by decide))
      · refine Rhp_C hH (fun k hk => c' k (by intro q; simp at q; rcases q with rfl | rfl <;> simp at hk)) (by rw [c' 8 (by decide)]) (fun i hi => c26 i (by intro q; rw [q] at hi; revert hi; decide)) (fun k hk => r' k (by intro q; simp at q; rcases q with rfl | rfl <;> simp at hk)) (fun i hi => r0 i (by intro q; simp at q; rcases q with rfl | rfl <;> simp at hi)) ?_
        have x24 : ∀ i, ux_ (shf (ux_ R 0 0 0) 24 at' (C 26 11 - 1)) 0 31 (C 26 11 - 1) 24 i = if at' ≤ i ∧ i < C 26 11 - 1 then R 24 (i + 1) else R 24 i := fun i => by
          rw [ux_c _ _ _ _ (by decide)]
          unfold shf
          rw [ux_c _ _ _ _ (by decide), ux_c _ _ _ _ (by decide)]
          simp
        have x33 : ∀ i, shf (ux_ C 26 11 (C 26 11 - 1)) 33 at' (C 26 11 - 1) 33 i = if at' ≤ i ∧ i < C 26 11 - 1 then C 33 (i + 1) else C 33 i := fun i => by
          unfold shf
          rw [ux_c _ _ _ _ (by decide), ux_c _ _ _ _ (by decide)]
          simp
        have hk : hOk (shf (ux_ C 26 11 (C 26 11 - 1)) 33 at' (C 26 11 - 1)) = hOk C := hOk_eq (c26 1 (by decide)) (c' 27 (by decide))
        refine ⟨by rw [c11, ux_s], by rw [c11]; omega, by rw [c11]; omega, ?_, ?_⟩
        · rw [c11, hk]
          intro k k0 k1
          rw [x24, x33]
          by_cases q : at' ≤ k ∧ k < C 26 11 - 1
          · rw [if_pos q, if_pos q]; exact g4 (k + 1) (by omega) (by omega)
          · rw [if_neg q, if_neg q]; exact g4 k k0 (by omega)
        · rw [c11]
          intro j k j0 j1 k1
          rw [x33, x33]
          by_cases q : at' ≤ k ∧ k < C 26 11 - 1
          · rw [if_pos q]
            by_cases q2 : at' ≤ j ∧ j < C 26 11 - 1
            · rw [if_pos q2]; exact g5 (j + 1) (k + 1) (by omega) (by omega) (by omega)
            · rw [if_neg q2]; exact g5 j (k + 1) (by omega) (by omega) (by omega)
          · rw [if_neg q, if_neg (by omega)]; exact g5 j k j0 j1 (by omega)
    · unfold w_X11_root_b86
      exact ⟨fun _ => fine _ ok0 k (by omega) (Or.inl ⟨k0, k1, k2⟩), fun q => absurd q z⟩
    · unfold w_X11_root_b86
      exact ⟨fun q => absurd z q, fun _ => ⟨fun _ => fine _ ok0 (-1) (by omega) (Or.inr ⟨rfl, hno⟩), fun q => absurd rfl q⟩⟩
    · subst e8
      refine ⟨fun z8 v10 e10 g10 => ?_, fun z8 => ⟨rfl, ?_⟩⟩
      · subst e10
        refine ⟨g2, by omega, fun M11 e11 v12 e12 g12 => ?_⟩
        have r12 : v12 = C 26 11 := by rw [e12, e11, ux_c _ _ _ _ (by decide)]
        subst r12
        refine ⟨by unfold ri_; omega, fun M14 e14 => ?_⟩
        unfold w_X11_root_b86
        refine ⟨fun _ => ?_, fun q => absurd q z⟩
        subst e14 e11
        refine start ho _ fun at' ha => ?_
        have : at' = -1 := by
          rcases ha with ⟨a, b, c⟩ | ⟨a, b⟩
          · exact absurd c (hno _ a b)
          · exact a
        subst this
        refine ⟨fun _ => ?_, fun q => absurd q.2.2 z8⟩
        unfold w_X12_root_b55
        intro M1 e1 v2 e2 _
        rw [uu00] at e1
        have : v2 = 0 := by rw [e2, e1, ux_s]
        refine ⟨fun _ => ⟨fun q => absurd q z, fun _ => ⟨fun q => absurd rfl q, fun _ v6 e6 g6 => ?_⟩⟩, fun q => by omega⟩
        subst e1
        rw [e31] at e6
        subst e6
        refine ⟨g2, by omega, fun M7 e7 v8 e8 g8 => ?_⟩
        have r8 : v8 = C 26 11 := by rw [e8, e7, ux_c _ _ _ _ (by decide), e31]
        subst r8
        refine ⟨by unfold ri_; omega, fun M10 e10 => ?_⟩
        unfold w_X12_root_b95
        refine ⟨fun _ => ?_, fun q => absurd q z⟩
        subst e10 e7
        have c' : ∀ k, k ∉ [26, 33] → ux_ (ux_ C 33 (C 26 11) o) 26 11 (C 26 11 + 1) k = C k := by
          intro k hk
          funext i
          rw [ux_c _ _ _ _ (fun q => hk (by rw [q]; decide)), ux_c _ _ _ _ (fun q => hk (by rw [q]; decide))]
        have c26 : ∀ i, i ≠ 11 → ux_ (ux_ C 33 (C 26 11) o) 26 11 (C 26 11 + 1) 26 i = C 26 i := by
          intro i hi
          rw [ux_i _ _ _ hi, ux_c _ _ _ _ (by decide)]
        have c11 : ux_ (ux_ C 33 (C 26 11) o) 26 11 (C 26 11 + 1) 26 11 = C 26 11 + 1 := ux_s _ _ _ _
        have r' : ∀ k, k ∉ [0, 24] → ux_ (ux_ (ux_ R 0 0 0) 24 (C 26 11) o) 0 31 (C 26 11 + 1) k = R k := by
          intro k hk
          funext i
          have k0 : k ≠ 0 := fun q => hk (by rw [q]; decide)
          rw [ux_c _ _ _ _ k0, ux_c _ _ _ _ (fun q => hk (by rw [q]; decide)), ux_c _ _ _ _ k0]
        have r0 : ∀ i, i ∉ ([0, 31] : List Int) → ux_ (ux_ (ux_ R 0 0 0) 24 (C 26 11) o) 0 31 (C 26 11 + 1) 0 i = R 0 i := by
          intro i hi
          rw [ux_i _ _ _ (fun q => hi (by rw [q]; decide)), ux_c _ _ _ _ (by decide), ux_i _ _ _ (fun q => hi (by rw [q]; decide))]
        refine ⟨?_, ⟨?_, ?_, ?_⟩, c', c26, r', r0⟩
        · rw [ux_i _ _ _ (by decide), ux_c _ _ _ _ (by decide), ux_s]
        · refine RA_R (RA_of hA (by rw [c' 1 (by decide)]) (fun k i a b _ _ _ => by rw [c' k (by simp; omega)]) (fun k i _ _ => rfl) rfl rfl) (fun k a b _ => r' k (by simp; omega)) (fun i hi => r0 i (by revert hi; simp; omega))
        · exact Rlk_of hL (by rw [c' 8 (by decide)]) (c' 14 (by decide)) (c' 19 (by decide)) (c' 20 (by decide))
        · refine Rhp_C hH (fun k hk => c' k (by intro q; simp at q; rcases q with rfl | rfl <;> simp at hk)) (by rw [c' 8 (by decide)]) (fun i hi => c26 i (by intro q; rw [q] at hi; revert hi; decide)) (fun k hk => r' k (by intro q; simp at q; rcases q with rfl | rfl <;> simp at hk)) (fun i hi => r0 i (by intro q; simp at q; rcases q with rfl | rfl <;> simp at hi)) ?_
          have x24 : ∀ i, ux_ (ux_ (ux_ R 0 0 0) 24 (C 26 11) o) 0 31 (C 26 11 + 1) 24 i = if i = C 26 11 then o else R 24 i := fun i => by
            rw [ux_c _ _ _ _ (by decide)]
            by_cases q : i = C 26 11
            · rw [if_pos q, q, ux_s]
            · rw [if_neg q, ux_i _ _ _ q, ux_c _ _ _ _ (by decide)]
          have x33 : ∀ i, ux_ (ux_ C 33 (C 26 11) o) 26 11 (C 26 11 + 1) 33 i = if i = C 26 11 then o else C 33 i := fun i => by
            rw [ux_c _ _ _ _ (by decide)]
            by_cases q : i = C 26 11
            · rw [if_pos q, q, ux_s]
            · rw [if_neg q, ux_i _ _ _ q]
          have hk : hOk (ux_ (ux_ C 33 (C 26 11) o) 26 11 (C 26 11 + 1)) = hOk C := hOk_eq (c26 1 (by decide)) (c' 27 (by decide))
          refine ⟨by rw [c11, ux_s], by rw [c11]; omega, by rw [c11]; omega, ?_, ?_⟩
          · rw [c11, hk]
            intro k k0 k1
            rw [x24, x33]
            by_cases q : k = C 26 11
            · rw [if_pos q, if_pos q]; exact ⟨rfl, ho⟩
            · rw [if_neg q, if_neg q]; exact g4 k k0 (by omega)
          · rw [c11]
            intro j k j0 j1 k1
            rw [x33, x33, if_neg (by omega)]
            by_cases q : k = C 26 11
            · rw [if_pos q]; exact hno j j0 (by omega)
            · rw [if_neg q]; exact g5 j k j0 j1 (by omega)
      · refine start ho _ fun at' ha => ?_
        have : at' = -1 := by
          rcases ha with ⟨a, b, c⟩ | ⟨a, b⟩
          · exact absurd c (hno _ a b)
          · exact a
        subst this
        refine ⟨fun q => absurd ⟨z, rfl, z8⟩ q, fun _ => ?_⟩
        unfold w_X12_root_b55
        intro M1 e1 v2 e2 _
        rw [uu00] at e1
        have : v2 = 2 := by rw [e2, e1, ux_s]
        exact ⟨fun q => by omega, fun _ => by rw [e1]; rfl⟩
  · unfold w_X12_root
    refine p_R_isObject hH (fun q => absurd q ho) (fun _ _ => ⟨fun _ => ?_, fun q => absurd rfl q⟩)
    unfold w_X12_root_b14
    intro M1 e1 v2 e2 _
    have : v2 = 1 := by rw [e2, e1, ux_s]
    exact ⟨fun q => by omega, fun _ => by rw [e1]; rfl⟩
