/-! undo, watch, rows and row, on both sides -/
theorem RB_of {C R C' R' : MM} (hB : RB C R) (hH : Rhp C' R') (c : ∀ k, 1 ≤ k → k ≤ 25 → C' k = C k) (r : ∀ k, 1 ≤ k → k ≤ 18 → k ≠ 6 → R' k = R k) (r0 : ∀ i, i ∈ ([3, 20] : List Int) → R' 0 i = R 0 i) : RB C' R' :=
  ⟨RA_R (RA_of hB.1 (by rw [c 1 (by omega) (by omega)]) (fun k i a b _ _ _ => by rw [c k (by omega) b]) (fun k i _ _ => rfl) rfl rfl) r r0, Rlk_of hB.2.1 (by rw [c 8 (by omega) (by omega)]) (c 14 (by omega) (by omega)) (c 19 (by omega) (by omega)) (c 20 (by omega) (by omega)), hH⟩
theorem Rjn_00 {C R : MM} (h : Rjn C R) (x : Int) : Rjn C (ux_ R 0 0 x) := by
  obtain ⟨j1, j2, j3, j4⟩ := h
  have a : ∀ k, k ≠ 0 → ux_ R 0 0 x k = R k := fun k hk => funext fun i => ux_c _ _ _ _ hk
  exact ⟨by rw [ux_i _ _ _ (by decide)]; exact j1, j2, Rud_e j3 (fun _ _ _ _ q => q) rfl rfl (fun _ _ => rfl) (ux_i _ _ _ (by decide)) (fun k hk => a k (by intro q; rw [q] at hk; revert hk; decide)), Rwt_e j4 rfl (fun _ _ => rfl) (Int.le_refl _) (fun _ _ _ _ _ q => q) (ux_i _ _ _ (by decide)) (fun k hk => a k (by intro q; rw [q] at hk; revert hk; decide))⟩
/-- undo rows, one less -/
theorem Rud_pop {C R C' R' : MM} (h : Rud C R) (n0 : 0 < C 36 6) (hu : uE C' = uE C) (c5 : C' 36 5 = C 36 5) (c6 : C' 36 6 = C 36 6 - 1) (c : ∀ k, k ∈ [37, 38, 39] → C' k = C k) (r36 : R' 0 36 = R 0 36 - 1) (r : ∀ k, k ∈ [25, 26, 27, 28] → R' k = R k) : Rud C' R' := by
  unfold Rud at h ⊢
  rw [hu, c5, c6, c 37 (by decide), c 38 (by decide), c 39 (by decide), r36, r 25 (by decide), r 26 (by decide), r 27 (by decide), r 28 (by decide)]
  obtain ⟨h1, h2, h3, h4, h5, h6⟩ := h
  exact ⟨h1, h2, by omega, by omega, by omega, fun k k0 k1 => h6 k k0 (by omega)⟩
/-- the relation behind one step back -/
theorem rel_u {C R C' R' : MM} (hB : RB C R) (hJ : Rjn C R) (n0 : 0 < C 36 6) (hH : Rhp C' R') (c : ∀ k, k ∉ [30, 32, 36] → C' k = C k) (c6 : C' 36 6 = C 36 6 - 1) (c36 : ∀ i, i ≠ 6 → C' 36 i = C 36 i) (r : ∀ k, k ∉ [0, 6, 23] → R' k = R k) (r0 : ∀ i, i ∉ ([0, 36] : List Int) → R' 0 i = R 0 i) (r36 : R' 0 36 = R 0 36 - 1) : RB C' R' ∧ Rjn C' R' := by
  obtain ⟨j1, j2, j3, j4⟩ := hJ
  refine ⟨RB_of hB hH (fun k a b => c k (by simp; omega)) (fun k a b d => r k (by simp; omega)) (fun i hi => r0 i (by revert hi; simp; omega)), ?_, ?_, ?_, ?_⟩
  · rw [c36 1 (by decide), r0 29 (by decide)]; exact j1
  · rw [c36 1 (by decide)]; exact j2
  · exact Rud_pop j3 n0 (uE_c (fun k hk => c k (by intro q; simp at q; rcases q with rfl | rfl | rfl <;> simp at hk)) (by rw [c 26 (by decide)])) (c36 5 (by decide)) c6 (fun k hk => c k (by intro q; simp at q; rcases q with rfl | rfl | rfl <;> simp at hk)) r36 (fun k hk => r k (by intro q; simp at q; rcases q with rfl | rfl | rfl <;> simp at hk))
  · exact Rwt_e j4 (c36 7 (by decide)) (fun k hk => c k (by intro q; simp at q; rcases q with rfl | rfl | rfl <;> simp at hk)) (by rw [c 8 (by decide)]; omega) (fun x k _ _ _ q => by rw [c 14 (by decide)]; exact q) (r0 44 (by decide)) (fun k hk => r k (by intro q; simp at q; rcases q with rfl | rfl | rfl <;> simp at hk))
set_option maxHeartbeats 400000 in
theorem t_undo {C R : MM} (hB : RB C R) (hJ : Rjn C R) : w_X11_undo (fun r C' => w_X12_undo (fun r' R' => r = r' ∧ R' 0 0 = 0 ∧ RB C' R' ∧ Rjn C' R' ∧ (∀ k, k ∉ [30, 32, 36] → C' k = C k) ∧ (∀ i, i ≠ 6 → C' 36 i = C 36 i) ∧ (∀ k, k ∉ [0, 6, 23] → R' k = R k) ∧ (∀ i, i ∉ ([0, 36] : List Int) → R' 0 i = R 0 i)) R) C := by
  have hH := hB.2.2
  have hY := hB.1.2.2.2.2
  have h16 := hY.2.2.1
  have n36 := hJ.2.2.1.2.2.2.2.1
  have n0 := hJ.2.2.1.2.2.1
  have n1 := hJ.2.2.1.2.2.2.1
  have s0 := hJ.2.2.1.1
  have s1 := hJ.2.2.1.2.1
  unfold w_X11_undo w_X3_takeBack
  intro v1 e1 _
  subst e1
  refine ⟨fun z v3 e3 _ => ?_, fun z _ => ?_⟩
  · subst e3
    refine ⟨by unfold ri_; omega, fun M5 e5 v6 e6 _ v7 e7 _ => ?_⟩
    have r6 : v6 = C 36 5 := by rw [e6, e5, ux_i _ _ _ (by decide)]
    have r7 : v7 = C 36 6 - 1 := by rw [e7, e5, ux_s]
    subst r6 r7
    have ei : C 36 5 + (C 36 6 - 1) - Int.tdiv (C 36 5 + (C 36 6 - 1)) 100 * 100 = (C 36 5 + (C 36 6 - 1)) % 100 := tmod_W (by omega)
    rw [ei]
    have m0 : 0 ≤ (C 36 5 + (C 36 6 - 1)) % 100 := by omega
    have m1 : (C 36 5 + (C 36 6 - 1)) % 100 < 100 := by omega
    have q5 : ∀ k, k ≠ 36 → M5 k = C k := fun k hk => funext fun i => by rw [e5, ux_c _ _ _ _ hk]
    obtain ⟨u1, u2, u3⟩ := hJ.2.2.1.2.2.2.2.2 (C 36 6 - 1) (by omega) (by omega)
    have hR : ∀ Q : Int → MM → Prop, (∀ M6, M6 = ux_ (ux_ R 0 0 0) 0 36 (C 36 6 - 1) → (¬ R 25 (C 36 6 - 1) = (-1) → 0 ≤ R 25 (C 36 6 - 1) ∧ R 25 (C 36 6 - 1) < 400 ∧ 0 ≤ R 21 (R 25 (C 36 6 - 1)) + R 26 (C 36 6 - 1) ∧ R 21 (R 25 (C 36 6 - 1)) + R 26 (C 36 6 - 1) < 38500 ∧ Q (R 27 (C 36 6 - 1)) (ux_ M6 23 (R 21 (R 25 (C 36 6 - 1)) + R 26 (C 36 6 - 1)) (R 28 (C 36 6 - 1)))) ∧ (R 25 (C 36 6 - 1) = -1 → 0 ≤ R 26 (C 36 6 - 1) ∧ R 26 (C 36 6 - 1) < 96 ∧ Q (R 27 (C 36 6 - 1)) (ux_ M6 6 (R 26 (C 36 6 - 1)) (R 28 (C 36 6 - 1))))) → w_X12_undo Q R := by
      intro Q hq
      unfold w_X12_undo
      intro M1 f1 v2 f2 _
      have a2 : v2 = C 36 6 := by rw [f2, f1, ux_i _ _ _ (by decide)]; exact n36.symm
      subst a2
      refine ⟨fun _ v4 f4 _ => ?_, fun q => absurd q z⟩
      have a4 : v4 = C 36 6 := by rw [f4, f1, ux_i _ _ _ (by decide)]; exact n36.symm
      subst a4
      refine ⟨by unfold ri_; omega, fun M6 f6 v7 f7 _ => ?_⟩
      rw [f1] at f6
      have a7 : v7 = C 36 6 - 1 := by rw [f7, f6, ux_s]
      subst a7
      have k6 : ∀ k, k ≠ 0 → M6 k = R k := fun k hk => funext fun i => by rw [f6, ux_c _ _ _ _ hk, ux_c _ _ _ _ hk]
      have k36 : M6 0 36 = C 36 6 - 1 := by rw [f6, ux_s]
      obtain ⟨x1, x2⟩ := hq M6 f6
      refine ⟨by omega, by omega, fun v8 f8 _ => ?_⟩
      rw [k6 25 (by decide)] at f8
      subst f8
      have b95 : ∀ k v i, k ≠ 0 → k ≠ 27 → Q (R 27 (C 36 6 - 1)) (ux_ M6 k i v) → w_X12_undo_b95 Q (ux_ M6 k i v) := by
        intro k v i hk hk2 hq2
        unfold w_X12_undo_b95
        intro v1 f1 _
        rw [ux_c _ _ _ _ (fun q => hk q.symm), k36] at f1
        subst f1
        refine ⟨by omega, by omega, fun v2 f2 _ => ?_⟩
        rw [ux_c _ _ _ _ (fun q => hk2 q.symm), k6 27 (by decide)] at f2
        rw [f2]; exact hq2
      refine ⟨fun zz => ?_, fun zz v17 f17 _ => ?_⟩
      · obtain ⟨y1, y2, y3, y4, y5⟩ := x1 zz
        refine ⟨y1, y2, fun v10 f10 _ v11 f11 _ => ?_⟩
        rw [k6 21 (by decide)] at f10
        rw [k36] at f11
        subst f10 f11
        refine ⟨by omega, by omega, fun v12 f12 _ => ?_⟩
        rw [k6 26 (by decide)] at f12
        subst f12
        refine ⟨by unfold ri_; omega, fun v14 f14 _ => ?_⟩
        rw [k36] at f14
        subst f14
        refine ⟨by omega, by omega, fun v15 f15 _ => ⟨y3, y4, fun M16 f16 => ?_⟩⟩
        rw [k6 28 (by decide)] at f15
        rw [f16, f15]
        exact b95 23 _ _ (by decide) (by decide) y5
      · obtain ⟨y1, y2, y3⟩ := x2 zz
        rw [k36] at f17
        subst f17
        refine ⟨by omega, by omega, fun v18 f18 _ v19 f19 _ => ?_⟩
        rw [k6 26 (by decide)] at f18
        rw [k36] at f19
        subst f18 f19
        refine ⟨by omega, by omega, fun v20 f20 _ => ⟨y1, y2, fun M21 f21 => ?_⟩⟩
        rw [k6 28 (by decide)] at f20
        rw [f21, f20]
        exact b95 6 _ _ (by decide) (by decide) y3
    have b80 : ∀ (Q : Int → MM → Prop) k v i, k ≠ 37 → k ≠ 36 → (ri_ (R 27 (C 36 6 - 1)) → Q (R 27 (C 36 6 - 1)) (ux_ M5 k i v)) → w_X3_takeBack_b80 (fun r1 M2 => ri_ r1 → Q r1 M2) ((C 36 5 + (C 36 6 - 1)) % 100) (ux_ M5 k i v) := by
      intro Q k v i hk hk2 hq
      unfold w_X3_takeBack_b80
      refine ⟨m0, m1, fun v1 f1 g1 _ => ?_⟩
      rw [ux_c _ _ _ _ (fun q => hk q.symm), q5 37 (by decide), u1] at f1
      subst f1
      exact hq g1
    refine ⟨by unfold ri_; omega, by unfold ri_; omega, m0, m1, fun v10 e10 _ => ?_⟩
    rw [q5 38 (by decide)] at e10
    subst e10
    rcases u3 with ⟨w1, w2, w3⟩ | ⟨w1, w2, w3, w4, w5⟩
    · -- a static
      have w3' := w3
      obtain ⟨c, k, c0, c1, k0, k1, ef, hv⟩ := w3
      have k6 := (hY.2.2.2.1 c c0 c1).1.2.2.2.2.2.2.2.2.2.1
      refine ⟨fun _ => ⟨m0, m1, fun v12 e12 _ => ?_⟩, fun q => by omega⟩
      rw [q5 38 (by decide), w2] at e12
      subst e12
      refine ⟨by unfold ri_; omega, m0, m1, fun v14 e14 _ => ⟨by omega, by omega, fun M15 e15 => ?_⟩⟩
      rw [q5 39 (by decide)] at e14
      rw [e15, e14, show -1 - (-1 - R 26 (C 36 6 - 1)) = R 26 (C 36 6 - 1) from by omega]
      refine b80 _ _ _ _ (by decide) (by decide) fun _ => ?_
      refine hR _ fun M6 f6 => ⟨fun q => absurd w1 q, fun _ => ⟨by omega, by omega, ?_⟩⟩
      rw [← u2]
      have cc : ∀ k, k ∉ [30, 32, 36] → ux_ M5 32 (R 26 (C 36 6 - 1)) (C 39 ((C 36 5 + (C 36 6 - 1)) % 100)) k = C k := by
        intro k hk
        simp at hk
        funext i
        rw [ux_c _ _ _ _ (by omega), q5 k (by omega)]
      have c36 : ∀ i, ux_ M5 32 (R 26 (C 36 6 - 1)) (C 39 ((C 36 5 + (C 36 6 - 1)) % 100)) 36 i = if i = 6 then C 36 6 - 1 else C 36 i := by
        intro i
        rw [ux_c _ _ _ _ (by decide), e5]
        by_cases y : i = 6
        · rw [if_pos y, y, ux_s]
        · rw [if_neg y, ux_i _ _ _ y]
      have rr : ∀ k, k ∉ [0, 6, 23] → ux_ M6 6 (R 26 (C 36 6 - 1)) (C 39 ((C 36 5 + (C 36 6 - 1)) % 100)) k = R k := by
        intro k hk
        simp at hk
        funext i
        rw [ux_c _ _ _ _ (by omega), f6, ux_c _ _ _ _ (by omega), ux_c _ _ _ _ (by omega)]
      have r0 : ∀ i, i ∉ ([0, 36] : List Int) → ux_ M6 6 (R 26 (C 36 6 - 1)) (C 39 ((C 36 5 + (C 36 6 - 1)) % 100)) 0 i = R 0 i := by
        intro i hi
        simp at hi
        rw [ux_c _ _ _ _ (by decide), f6, ux_i _ _ _ (by omega), ux_i _ _ _ (by omega)]
      have r00 : ux_ M6 6 (R 26 (C 36 6 - 1)) (C 39 ((C 36 5 + (C 36 6 - 1)) % 100)) 0 0 = 0 := by rw [ux_c _ _ _ _ (by decide), f6, ux_i _ _ _ (by decide), ux_s]
      have r36 : ux_ M6 6 (R 26 (C 36 6 - 1)) (C 39 ((C 36 5 + (C 36 6 - 1)) % 100)) 0 36 = R 0 36 - 1 := by rw [ux_c _ _ _ _ (by decide), f6, ux_s, n36]
      have c30 : ux_ M5 32 (R 26 (C 36 6 - 1)) (C 39 ((C 36 5 + (C 36 6 - 1)) % 100)) 30 = C 30 := by
        funext i
        rw [ux_c _ _ _ _ (by decide), q5 30 (by decide)]
      have r23 : ux_ M6 6 (R 26 (C 36 6 - 1)) (C 39 ((C 36 5 + (C 36 6 - 1)) % 100)) 23 = R 23 := by
        funext i
        rw [ux_c _ _ _ _ (by decide), f6, ux_c _ _ _ _ (by decide), ux_c _ _ _ _ (by decide)]
      have hH2 := hp_setS (C' := ux_ M5 32 (R 26 (C 36 6 - 1)) (C 39 ((C 36 5 + (C 36 6 - 1)) % 100))) (R' := ux_ M6 6 (R 26 (C 36 6 - 1)) (C 39 ((C 36 5 + (C 36 6 - 1)) % 100))) hH w3' (fun k hk => by
        by_cases y : k = 30
        · rw [y]; exact c30
        · exact cc k (by intro q; simp at q; rcases q with rfl | rfl | rfl <;> simp at hk y)) (by rw [cc 8 (by decide)]) (fun i _ => by rw [cc 26 (by decide)]) (fun i => by
        by_cases y : i = R 26 (C 36 6 - 1)
        · rw [if_pos y, y, ux_s]
        · rw [if_neg y, ux_i _ _ _ y, q5 32 (by decide)]) (fun x x0 x1 => (hY.2.2.2.1 x x0 x1).1.2.2.2.2.2.2.2.2.2.1) (fun k hk => by
        by_cases y : k = 23
        · rw [y]; exact r23
        · exact rr k (by intro q; simp at q; rcases q with rfl | rfl | rfl <;> simp at hk y)) (fun i hi => r0 i (by revert hi; simp; omega)) (fun i => by
        by_cases y : i = R 26 (C 36 6 - 1)
        · rw [if_pos y, y, ux_s]
        · rw [if_neg y, ux_i _ _ _ y, f6, ux_c _ _ _ _ (by decide), ux_c _ _ _ _ (by decide)])
      obtain ⟨a1, a2⟩ := rel_u hB hJ (by omega) hH2 cc (by rw [c36, if_pos rfl]) (fun i hi => by rw [c36, if_neg hi]) rr r0 r36
      exact ⟨rfl, r00, a1, a2, cc, fun i hi => by rw [c36, if_neg hi], rr, r0⟩
    · have hat := hp_at hY hH w1
      have w10 := w1.1
      refine ⟨fun q => by omega, fun _ => ⟨m0, m1, fun v16 e16 _ => ⟨m0, m1, fun v17 e17 _ => ?_⟩⟩⟩
      rw [q5 38 (by decide), w4] at e16
      rw [q5 39 (by decide)] at e17
      subst e16 e17
      refine ⟨by omega, by omega, fun M18 e18 => ?_⟩
      rw [e18]
      refine b80 _ _ _ _ (by decide) (by decide) fun _ => ?_
      refine hR _ fun M6 f6 => ⟨fun _ => ⟨by omega, by omega, by omega, by omega, ?_⟩, fun q => by omega⟩
      rw [← u2]
      have cc : ∀ k, k ∉ [30, 32, 36] → ux_ M5 30 (C 29 (R 25 (C 36 6 - 1)) + R 26 (C 36 6 - 1)) (C 39 ((C 36 5 + (C 36 6 - 1)) % 100)) k = C k := by
        intro k hk
        simp at hk
        funext i
        rw [ux_c _ _ _ _ (by omega), q5 k (by omega)]
      have c36 : ∀ i, ux_ M5 30 (C 29 (R 25 (C 36 6 - 1)) + R 26 (C 36 6 - 1)) (C 39 ((C 36 5 + (C 36 6 - 1)) % 100)) 36 i = if i = 6 then C 36 6 - 1 else C 36 i := by
        intro i
        rw [ux_c _ _ _ _ (by decide), e5]
        by_cases y : i = 6
        · rw [if_pos y, y, ux_s]
        · rw [if_neg y, ux_i _ _ _ y]
      have c32 : ux_ M5 30 (C 29 (R 25 (C 36 6 - 1)) + R 26 (C 36 6 - 1)) (C 39 ((C 36 5 + (C 36 6 - 1)) % 100)) 32 = C 32 := by
        funext i
        rw [ux_c _ _ _ _ (by decide), q5 32 (by decide)]
      have rr : ∀ k, k ∉ [0, 6, 23] → ux_ M6 23 (R 21 (R 25 (C 36 6 - 1)) + R 26 (C 36 6 - 1)) (C 39 ((C 36 5 + (C 36 6 - 1)) % 100)) k = R k := by
        intro k hk
        simp at hk
        funext i
        rw [ux_c _ _ _ _ (by omega), f6, ux_c _ _ _ _ (by omega), ux_c _ _ _ _ (by omega)]
      have r6 : ux_ M6 23 (R 21 (R 25 (C 36 6 - 1)) + R 26 (C 36 6 - 1)) (C 39 ((C 36 5 + (C 36 6 - 1)) % 100)) 6 = R 6 := by
        funext i
        rw [ux_c _ _ _ _ (by decide), f6, ux_c _ _ _ _ (by decide), ux_c _ _ _ _ (by decide)]
      have r0 : ∀ i, i ∉ ([0, 36] : List Int) → ux_ M6 23 (R 21 (R 25 (C 36 6 - 1)) + R 26 (C 36 6 - 1)) (C 39 ((C 36 5 + (C 36 6 - 1)) % 100)) 0 i = R 0 i := by
        intro i hi
        simp at hi
        rw [ux_c _ _ _ _ (by decide), f6, ux_i _ _ _ (by omega), ux_i _ _ _ (by omega)]
      have r00 : ux_ M6 23 (R 21 (R 25 (C 36 6 - 1)) + R 26 (C 36 6 - 1)) (C 39 ((C 36 5 + (C 36 6 - 1)) % 100)) 0 0 = 0 := by rw [ux_c _ _ _ _ (by decide), f6, ux_i _ _ _ (by decide), ux_s]
      have r36 : ux_ M6 23 (R 21 (R 25 (C 36 6 - 1)) + R 26 (C 36 6 - 1)) (C 39 ((C 36 5 + (C 36 6 - 1)) % 100)) 0 36 = R 0 36 - 1 := by rw [ux_c _ _ _ _ (by decide), f6, ux_s, n36]
      have hH2 := hp_set (C' := ux_ M5 30 (C 29 (R 25 (C 36 6 - 1)) + R 26 (C 36 6 - 1)) (C 39 ((C 36 5 + (C 36 6 - 1)) % 100))) (R' := ux_ M6 23 (R 21 (R 25 (C 36 6 - 1)) + R 26 (C 36 6 - 1)) (C 39 ((C 36 5 + (C 36 6 - 1)) % 100))) hY hH w1 w2 w3 w5 (fun k hk => by
        by_cases y : k = 32
        · rw [y]; exact c32
        · exact cc k (by intro q; simp at q; rcases q with rfl | rfl | rfl <;> simp at hk y)) (by rw [cc 8 (by decide)]) (fun i _ => by rw [cc 26 (by decide)]) (fun i => by
        by_cases y : i = C 29 (R 25 (C 36 6 - 1)) + R 26 (C 36 6 - 1)
        · rw [if_pos y, y, ux_s]
        · rw [if_neg y, ux_i _ _ _ y, q5 30 (by decide)]) (fun k hk => by
        by_cases y : k = 6
        · rw [y]; exact r6
        · exact rr k (by intro q; simp at q; rcases q with rfl | rfl | rfl <;> simp at hk y)) (fun i hi => r0 i (by revert hi; simp; omega)) (fun i => by
        by_cases y : i = R 21 (R 25 (C 36 6 - 1)) + R 26 (C 36 6 - 1)
        · rw [if_pos y, y, ux_s]
        · rw [if_neg y, ux_i _ _ _ y, f6, ux_c _ _ _ _ (by decide), ux_c _ _ _ _ (by decide)])
      obtain ⟨a1, a2⟩ := rel_u hB hJ (by omega) hH2 cc (by rw [c36, if_pos rfl]) (fun i hi => by rw [c36, if_neg hi]) rr r0 r36
      exact ⟨rfl, r00, a1, a2, cc, fun i hi => by rw [c36, if_neg hi], rr, r0⟩
  · unfold w_X12_undo
    intro M1 f1 v2 f2 _
    have a2 : v2 = C 36 6 := by rw [f2, f1, ux_i _ _ _ (by decide)]; exact n36.symm
    subst a2
    refine ⟨fun q => absurd z q, fun _ => ?_⟩
    subst f1
    exact ⟨rfl, ux_s _ _ _ _, RB_00 hB 0, Rjn_00 hJ 0, fun _ _ => rfl, fun _ _ => rfl, fun k hk => funext fun i => ux_c _ _ _ _ (by intro q; rw [q] at hk; revert hk; decide), fun i hi => ux_i _ _ _ (by intro q; rw [q] at hi; revert hi; decide)⟩
theorem t_rows {C R : MM} {w : Int} (hJ : Rjn C R) : w_X11_rows (fun r C' => C' = C ∧ w_X12_rows (fun r' R' => r = r' ∧ R' = ux_ R 0 0 0) w R) w C := by
  obtain ⟨h1, h2, h3, h4, -⟩ := hJ.2.2.2
  have e0 : ux_ R 0 0 0 0 44 = C 36 7 := by rw [ux_i _ _ _ (by decide)]; exact h1.symm
  unfold w_X11_rows w_X12_rows
  refine ⟨fun z => ⟨rfl, fun M1 e1 => ⟨fun _ => ⟨rfl, e1⟩, fun q => absurd z q⟩⟩, fun z v2 e2 _ => ?_⟩
  subst e2
  refine ⟨fun z2 => ⟨rfl, fun M1 e1 => ⟨fun q => absurd q z, fun _ v3 e3 _ => ?_⟩⟩, fun z2 => ⟨by omega, by omega, fun v4 e4 _ => ⟨rfl, fun M1 e1 => ⟨fun q => absurd q z, fun _ v3 e3 _ => ?_⟩⟩⟩⟩
  · rw [e1, e0] at e3
    subst e3
    exact ⟨fun _ => ⟨rfl, e1⟩, fun q => absurd z2 q⟩
  · rw [e1, e0] at e3
    subst e3
    refine ⟨fun q => absurd q z2, fun _ => ⟨by omega, by omega, fun v5 e5 _ => ⟨?_, e1⟩⟩⟩
    rw [e1, ux_c _ _ _ _ (by decide)] at e5
    rw [e4, e5]
    exact (h4 w (by omega) (by omega)).2.2.2.2.2.2.2.2.1
theorem t_row {C R : MM} {w k x : Int} (hJ : Rjn C R) : w_X11_row (fun r C' => C' = C ∧ w_X12_row (fun r' R' => r = r' ∧ R' = ux_ R 0 0 0) w k x R) (fun E C' => C' = C ∧ w_X12_row (fun r' R' => R' = ux_ R 0 0 1) w k x R) w k x C := by
  obtain ⟨h1, h2, h3, h4, -⟩ := hJ.2.2.2
  have bad : ∀ Q : Int → MM → Prop, Q 0 (ux_ R 0 0 1) → w_X12_row_b36 Q w k x R := by
    intro Q hq
    unfold w_X12_row_b36 w_X12_row_b41
    intro M1 e1 v2 e2 _
    have : v2 = 1 := by rw [e2, e1, ux_s]
    exact ⟨fun q => by omega, fun _ => by rw [e1]; exact hq⟩
  unfold w_X11_row w_X11_row_b22
  refine ⟨fun z => ⟨rfl, ?_⟩, fun z => ?_⟩
  · unfold w_X12_row
    refine ⟨fun _ => bad _ rfl, fun _ v2 e2 _ => ⟨fun _ => bad _ rfl, fun _ => ⟨fun _ => bad _ rfl, fun q => absurd z q⟩⟩⟩
  · unfold w_X11_rows
    refine ⟨fun zw _ => ⟨fun _ => ⟨rfl, ?_⟩, fun q => absurd (by omega) q⟩, fun zw v2 e2 _ => ?_⟩
    · unfold w_X12_row
      exact ⟨fun _ => bad _ rfl, fun q => absurd zw q⟩
    · subst e2
      refine ⟨fun z2 _ => ⟨fun _ => ⟨rfl, ?_⟩, fun q => absurd (by omega) q⟩, fun z2 => ⟨by omega, by omega, fun v4 e4 _ _ => ?_⟩⟩
      · unfold w_X12_row
        refine ⟨fun _ => bad _ rfl, fun _ v2 e2 _ => ⟨fun _ => bad _ rfl, fun q => absurd (by omega) q⟩⟩
      · obtain ⟨-, -, -, -, -, -, -, -, a9, a10, a11, a12⟩ := h4 w (by omega) (by omega)
        have go : ∀ Q : Int → MM → Prop, (C 43 w ≤ k → w_X12_row_b36 Q w k x R) → (¬ C 43 w ≤ k → (x < 0 → w_X12_row_b36 Q w k x R) ∧ (¬ x < 0 → (x ≤ 3 → w_X12_row_b41 Q w k x 0 R) ∧ (¬ x ≤ 3 → w_X12_row_b36 Q w k x R))) → w_X12_row Q w k x R := by
          intro Q q1 q2
          unfold w_X12_row
          refine ⟨fun q => absurd q zw, fun _ v2 e2 _ => ?_⟩
          rw [← h1] at e2
          subst e2
          refine ⟨fun q => absurd q z2, fun _ => ⟨fun q => absurd q z, fun _ => ⟨by omega, by omega, fun v5 e5 _ => ?_⟩⟩⟩
          rw [← a9] at e5
          subst e5
          exact ⟨q1, q2⟩
        subst e4
        refine ⟨fun z4 => ⟨rfl, go _ (fun _ => bad _ rfl) (fun q => absurd z4 q)⟩, fun z4 => ⟨fun z5 => ⟨rfl, go _ (fun _ => bad _ rfl) (fun _ => ⟨fun _ => bad _ rfl, fun q => absurd z5 q⟩)⟩, fun z5 => ⟨fun z6 => ?_, fun z6 => ⟨rfl, go _ (fun _ => bad _ rfl) (fun _ => ⟨fun _ => bad _ rfl, fun _ => ⟨fun q => by omega, fun _ => bad _ rfl⟩⟩)⟩⟩⟩⟩
        unfold w_X3_rowPart
        refine ⟨by unfold ri_; omega, by unfold ri_; omega, by unfold ri_; omega, by unfold ri_; omega, by omega, by omega, fun v5 e5 _ _ => ⟨rfl, go _ (fun q => absurd q z4) (fun _ => ⟨fun q => absurd q z5, fun _ => ⟨fun _ => ?_, fun q => by omega⟩⟩)⟩⟩
        have key : ∀ q : Nat, q < 4 → x = q → v5 = R (32 + q) (6 * w + k) := by
          intro q q4 hx
          rw [e5, show (w * 6 + k) * 4 + x = 24 * w + 4 * k + (q : Int) from by omega]
          exact a12 k q (by omega) (by omega) q4
        unfold w_X12_row_b41
        intro M1 e1 v2 e2 _
        have : v2 = 0 := by rw [e2, e1, ux_s]
        have eR : ∀ c i, c ≠ 0 → M1 c i = R c i := fun c i hc => by rw [e1, ux_c _ _ _ _ hc]
        refine ⟨fun _ => ⟨by unfold ri_; omega, by unfold ri_; omega, fun x0 => ⟨fun x1 => ⟨fun x2 => ⟨by omega, by omega, fun v9 e9 _ => ⟨?_, e1⟩⟩, fun x2 => ⟨by omega, by omega, fun v9 e9 _ => ⟨?_, e1⟩⟩⟩, fun x1 => ⟨by omega, by omega, fun v9 e9 _ => ⟨?_, e1⟩⟩⟩, fun x0 => ⟨by omega, by omega, fun v9 e9 _ => ⟨?_, e1⟩⟩⟩, fun q => by omega⟩
        · rw [e9, eR _ _ (by decide)]; exact key 3 (by omega) (by omega)
        · rw [e9, eR _ _ (by decide)]; exact key 2 (by omega) (by omega)
        · rw [e9, eR _ _ (by decide)]; exact key 1 (by omega) (by omega)
        · rw [e9, eR _ _ (by decide)]; exact key 0 (by omega) (by omega)
