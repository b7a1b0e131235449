/-! swap: may it be done? the reference -/
theorem p_turned {Q : Int → MM → Prop} {v a b : Int} {M : MM} (h : Q (tn a b v) M) : w_X12_turned Q v a b M := by
  unfold w_X12_turned
  unfold tn at h
  refine ⟨fun z => ⟨fun y => ?_, fun y => ?_⟩, fun z => ?_⟩
  · rw [if_neg z, if_neg y] at h; exact h
  · rw [if_neg z, if_pos y] at h; exact h
  · rw [if_pos z] at h; exact h
theorem p_R_isLK {Q : Int → MM → Prop} {C R : MM} {o k : Int} (hY : Rty C R) (hH : Rhp C R) (ho : hOk C o) (k0 : 0 ≤ k) (k1 : k < ln C o) (h1 : kA C (C 27 o) k = 5 → Q 1 R) (h0 : kA C (C 27 o) k ≠ 5 → Q 0 R) : w_X12_isLinkSlot Q o k R := by
  obtain ⟨r1, r2, -⟩ := (hH.2.2.2.2.2.2.2.2.2.1 o ho.1 ho.2.1).2 ho.2.2
  have o4 := (hOk_t hH ho).2.2
  unfold w_X12_isLinkSlot
  refine ⟨ho.1, o4, fun v1 e1 _ => ?_⟩
  rw [← r1] at e1
  rw [e1]
  refine p_R_kA hY r2 k0 (fun z => ?_) (fun _ => ⟨fun z => h0 z, fun z => h1 z⟩)
  unfold ln so at k1; rw [if_neg (by omega)] at k1; exact k1
set_option maxHeartbeats 1000000 in
theorem r_canSwap {Q : Int → MM → Prop} {C R : MM} {a b : Int} (hB : RB C R) (ha : hOk C a) (hb : hOk C b) (ab : a ≠ b) (h1 : good C a b → w_X12_swap_b291 Q a b 0 R) (h0 : ¬ good C a b → w_X12_swap_b291 Q a b 2 R) : w_X12_swap_b48 Q a b 1 0 R := by
  obtain ⟨hA, hL, hH⟩ := hB
  have hY := hA.2.2.2.2
  have h16 := hY.2.2.1
  have y0 := hY.2.1
  have n0 := hH.2.1
  have n4 := hH.2.2.1
  have h26 := hH.1
  have h13 := hH.2.2.2.2.2.2.2.2.2.2.2.2.1
  obtain ⟨ta, a2, a3⟩ := hOk_t hH ha
  obtain ⟨tb, b2, b3⟩ := hOk_t hH hb
  have ra : R 19 a = C 27 a := (((hH.2.2.2.2.2.2.2.2.2.1 a ha.1 ha.2.1).2 ha.2.2).1).symm
  have rb : R 19 b = C 27 b := (((hH.2.2.2.2.2.2.2.2.2.1 b hb.1 hb.2.1).2 hb.2.2).1).symm
  -- a link that a swap would turn
  have cas : ∀ v l, tn a b v ≠ v → 0 ≤ tn a b v ∧ tn a b v < 400 ∧ vT (C 8 0) (R 19 (tn a b v)) ∧ (ft C (R 19 (tn a b v)) l ↔ gdv C v l a b) := fun v l hv => by
    unfold tn at hv ⊢
    unfold gdv
    by_cases z : v = a
    · rw [if_pos z, rb]; exact ⟨b2, b3, tb, ⟨fun q => ⟨fun _ => q, fun w => absurd z w⟩, fun q => q.1 z⟩⟩
    · rw [if_neg z] at hv ⊢
      by_cases y : v = b
      · rw [if_pos y, ra]; exact ⟨a2, a3, ta, ⟨fun q => ⟨fun w => absurd w z, fun _ _ => q⟩, fun q => q.2 z y⟩⟩
      · rw [if_neg y] at hv; exact absurd rfl hv
  have same : ∀ v l, tn a b v = v → gdv C v l a b := fun v l hv => by
    unfold tn at hv
    by_cases z : v = a
    · rw [if_pos z] at hv; omega
    · rw [if_neg z] at hv
      by_cases y : v = b
      · rw [if_pos y] at hv; omega
      · exact ⟨fun q => absurd q z, fun _ q => absurd q y⟩
  have stat : ∀ x3, ((x3 = 1 ∧ ∀ o k, gds C a b o k) ∨ (x3 = 0 ∧ ¬ good C a b)) → w_X12_swap_b192 Q a b x3 0 R := fun x3 hx => by
    unfold w_X12_swap_b192
    refine loop5 _ (fun (x1 x2 x3 f : Int) M => a = x1 ∧ b = x2 ∧ R = M ∧ 0 ≤ f ∧ f ≤ 6 * C 8 0 ∧ ((x3 = 1 ∧ (∀ o k, gds C a b o k) ∧ ∀ g, 0 ≤ g → g < f → gdf C a b g) ∨ (x3 = 0 ∧ ¬ good C a b))) (fun _ _ _ (f : Int) _ => (6 * C 8 0 - f).toNat) ?_ _ _ _ _ _ ⟨rfl, rfl, rfl, by omega, by omega, hx.elim (fun q => Or.inl ⟨q.1, q.2, fun g x y => by omega⟩) Or.inr⟩
    rintro _ _ x3 f _ ih' ⟨rfl, rfl, rfl, f0, f1, hf⟩ ih
    unfold wb_X12_swap_b192
    intro v1 e1 _
    rw [← hY.1] at e1
    refine ⟨by unfold ri_; omega, fun z => ⟨fun y => ?_, fun y => ?_⟩, fun z => ?_⟩
    · rcases hf with ⟨q, -⟩ | ⟨-, q⟩
      · omega
      · exact h0 q
    · rcases hf with ⟨-, q1, q2⟩ | ⟨q, -⟩
      · exact h1 ⟨q1, fun g x w => q2 g x (by omega)⟩
      · omega
    have nx : ∀ x3', ((x3' = 1 ∧ (∀ o k, gds C a b o k) ∧ (∀ g, 0 ≤ g → g < f → gdf C a b g) ∧ gdf C a b f) ∨ (x3' = 0 ∧ ¬ good C a b)) → w_X12_swap_b275 Q ih' a b x3' f R := fun x3' q => by
      unfold w_X12_swap_b275
      refine ⟨by unfold ri_; omega, ih _ _ _ _ _ ⟨rfl, rfl, rfl, by omega, by omega, ?_⟩ (by omega)⟩
      rcases q with ⟨q0, q1, q2, q3⟩ | q
      · refine Or.inl ⟨q0, q1, fun g x y => ?_⟩
        by_cases e : g = f
        · rw [e]; exact q3
        · exact q2 g x (by omega)
      · exact Or.inr q
    have nx0 : ¬ gdf C a b f → w_X12_swap_b275 Q ih' a b 0 f R := fun q => nx 0 (Or.inr ⟨rfl, fun w => q (w.2 f f0 (by omega))⟩)
    have nxs : gdf C a b f → w_X12_swap_b275 Q ih' a b x3 f R := fun q => nx x3 (hf.elim (fun w => Or.inl ⟨w.1, w.2.1, w.2.2, q⟩) Or.inr)
    refine p_R_isLS hY f0 (by omega) (fun s1 s2 _ => ⟨fun _ => ⟨f0, by omega, fun v8 e8 _ => ?_⟩, fun q => absurd q (by decide)⟩) (fun s _ => ⟨fun q => absurd rfl q, fun _ => nxs fun q1 q2 => absurd ⟨q1, q2⟩ s⟩)
    rw [← h13 f f0 (by omega)] at e8
    refine p_turned (fun _ => ⟨fun q => nxs fun _ _ => by rw [← e8]; exact same _ _ q, fun q => ⟨fun w => ?_, fun w => ?_⟩⟩)
    · unfold w_X12_swap_b273 w_X12_swap_b274
      rcases hf with ⟨q0, -⟩ | q0
      · omega
      · exact nx 0 (Or.inr ⟨rfl, q0.2⟩)
    · obtain ⟨c1, c2, c3, c4⟩ := cas v8 (C 20 f) q
      obtain ⟨cc, kk, d0, d1, d2, d3, d4⟩ := ls_ck hY f0 (by omega) s1
      have rf := (hY.2.2.2.1 cc d0 d1).2.2.2 kk d2 d3
      have lk := hL cc kk d0 d1 d2 d3
      rw [← d4] at rf lk
      refine p_turned (fun _ => ⟨by unfold ri_; omega, c1, c2, fun v16 e16 _ => ⟨f0, by omega, fun v17 e17 _ => ?_⟩⟩)
      rw [← rf.2.2.2.2.1] at e17
      rw [e16, e17]
      refine p_R_fits hY c3 (lk.elim (fun w => w.2) (fun w => absurd s2 w.1)) (fun g _ => ⟨fun w => absurd w (by decide), fun _ => ?_⟩) (fun g _ => ⟨fun _ => ?_, fun w => absurd rfl w⟩)
      · unfold w_X12_swap_b274
        have x1 : x3 = 1 := by rcases hf with ⟨q0, -⟩ | q0 <;> omega
        rw [← x1]; exact nxs fun _ _ => by rw [← e8]; exact c4.mp g
      · unfold w_X12_swap_b273 w_X12_swap_b274
        exact nx0 fun w => g (c4.mpr (by rw [e8]; exact w s1 s2))
  unfold w_X12_swap_b48
  refine loop5 _ (fun (x1 x2 x3 o : Int) M => a = x1 ∧ b = x2 ∧ R = M ∧ 0 ≤ o ∧ o ≤ C 26 1 ∧ ((x3 = 1 ∧ ∀ p k, p < o → gds C a b p k) ∨ (x3 = 0 ∧ ¬ good C a b))) (fun _ _ _ (o : Int) _ => (C 26 1 - o).toNat) ?_ _ _ _ _ _ ⟨rfl, rfl, rfl, by omega, n0, Or.inl ⟨rfl, fun p k x hp => by have := hp.1; omega⟩⟩
  rintro _ _ x3 o _ f ⟨rfl, rfl, rfl, o0, o1, hg⟩ ih
  unfold wb_X12_swap_b48
  intro v1 e1 _
  rw [← h26] at e1
  refine ⟨fun z => stat x3 (hg.elim (fun q => Or.inl ⟨q.1, fun p k => ?_⟩) Or.inr), fun z => ?_⟩
  · by_cases w : p < o
    · exact q.2 p k w
    · intro hp; have := hp.2.1; omega
  have rob := hH.2.2.2.2.2.2.2.2.2.1 o o0 (by omega)
  unfold w_X12_swap_b60
  refine loop6 _ (fun (x1 x2 x3 x4 k : Int) M => a = x1 ∧ b = x2 ∧ o = x4 ∧ R = M ∧ 0 ≤ k ∧ (hOk C o → k ≤ ln C o) ∧ ((x3 = 1 ∧ (∀ p k, p < o → gds C a b p k) ∧ ∀ j, j < k → gds C a b o j) ∨ (x3 = 0 ∧ ¬ good C a b))) (fun _ _ _ _ (k : Int) _ => (ln C o - k).toNat) ?_ _ _ _ _ _ _ ⟨rfl, rfl, rfl, rfl, by omega, fun q => (hp_at hY hH q).1, hg.elim (fun q => Or.inl ⟨q.1, q.2, fun j x _ q => by omega⟩) Or.inr⟩
  rintro _ _ x3 _ k _ f2 ⟨rfl, rfl, rfl, rfl, k0, k1, hk⟩ ih2
  have out : (¬ hOk C o ∨ ln C o ≤ k) → w_X12_swap_b183 Q f a b x3 o R := fun hq => by
    unfold w_X12_swap_b183
    refine ⟨by unfold ri_; omega, ih _ _ _ _ _ ⟨rfl, rfl, rfl, by omega, by omega, ?_⟩ (by omega)⟩
    rcases hk with ⟨q0, q1, q2⟩ | q
    · refine Or.inl ⟨q0, fun p j x => ?_⟩
      by_cases e : p = o
      · rw [e]
        intro s1 s2 s3
        rcases hq with w | w
        · exact absurd s1 w
        · exact q2 j (by omega) s1 s2 s3
      · exact q1 p j (by omega)
    · exact Or.inr q
  unfold wb_X12_swap_b60
  refine ⟨o0, by omega, fun w1 d1 _ => ⟨fun y => ?_, fun y => ⟨o0, by omega, fun v3 e3 _ => ⟨o0, by omega, fun v4 e4 _ => ?_⟩⟩⟩⟩
  · refine out (Or.inl fun q => ?_)
    rw [rob.1, if_neg q.2.2] at d1
    omega
  have ho : hOk C o := by
    refine ⟨o0, by omega, fun q => ?_⟩
    rw [rob.1, if_pos q] at d1
    omega
  obtain ⟨r1, r2, r3, r4, r5, r6, r7, r8, r9, r10⟩ := rob.2 ho.2.2
  have hat := hp_at hY hH ho
  rw [← r1] at e3
  rw [← r4] at e4
  rw [e3, e4]
  refine p_R_so hY r2 (fun _ => ⟨fun w => out (Or.inr w), fun w => ⟨o0, by omega, fun v8 e8 _ => ?_⟩⟩)
  have kl : k < ln C o := by unfold ln; omega
  rw [e8]
  refine ⟨by unfold ri_; omega, by omega, by omega, fun v10 e10 _ => ?_⟩
  rw [← (r10 k k0 kl).1] at e10
  have nx : ∀ x3', ((x3' = 1 ∧ (∀ p k, p < o → gds C a b p k) ∧ (∀ j, j < k → gds C a b o j) ∧ gds C a b o k) ∨ (x3' = 0 ∧ ¬ good C a b)) → w_X12_swap_b177 Q f f2 a b x3' o k R := fun x3' q => by
    unfold w_X12_swap_b177
    refine ⟨by unfold ri_; omega, ih2 _ _ _ _ _ _ ⟨rfl, rfl, rfl, rfl, by omega, fun _ => by omega, ?_⟩ (by omega)⟩
    rcases q with ⟨q0, q1, q2, q3⟩ | q
    · refine Or.inl ⟨q0, q1, fun j x => ?_⟩
      by_cases e : j = k
      · rw [e]; exact q3
      · exact q2 j (by omega)
    · exact Or.inr q
  have nxs : gds C a b o k → w_X12_swap_b177 Q f f2 a b x3 o k R := fun q => nx x3 (hk.elim (fun w => Or.inl ⟨w.1, w.2.1, w.2.2, q⟩) Or.inr)
  refine p_R_isLK hY hH ho k0 kl (fun k5 _ => ⟨fun q => absurd q (by decide), fun _ => ?_⟩) (fun k5 _ => ⟨fun _ => nxs fun _ _ _ q => absurd q k5, fun q => absurd rfl q⟩)
  refine p_turned (fun _ => ⟨fun q => nxs fun _ _ _ _ => by rw [← e10]; exact same _ _ q, fun q => ⟨fun w => ?_, fun w => ?_⟩⟩)
  · unfold w_X12_swap_b175 w_X12_swap_b176
    rcases hk with ⟨q0, -⟩ | q0
    · omega
    · exact nx 0 (Or.inr ⟨rfl, q0.2⟩)
  · obtain ⟨c1, c2, c3, c4⟩ := cas v10 (lA C (C 27 o) k) q
    have s96 : C 27 o < 20 → k < C 16 (C 27 o) := fun z => by unfold ln so at kl; rw [if_neg (by omega)] at kl; exact kl
    refine p_turned (fun _ => ⟨by unfold ri_; omega, c1, c2, fun v21 e21 _ => ⟨o0, by omega, fun v22 e22 _ => ?_⟩⟩)
    rw [← r1] at e22
    rw [e21, e22]
    refine p_R_lA hY r2 k0 s96 k5 (fun _ => ?_)
    refine p_R_fits hY c3 (lA_ok hY hL r2 k0 s96 k5) (fun g _ => ⟨fun w => absurd w (by decide), fun _ => ?_⟩) (fun g _ => ⟨fun _ => ?_, fun w => absurd rfl w⟩)
    · unfold w_X12_swap_b176
      have x1 : x3 = 1 := by rcases hk with ⟨q0, -⟩ | q0 <;> omega
      rw [← x1]; exact nxs fun _ _ _ _ => by rw [← e10]; exact c4.mp g
    · unfold w_X12_swap_b175 w_X12_swap_b176
      exact nx 0 (Or.inr ⟨rfl, fun u => g (c4.mpr (by rw [e10]; exact u.1 o k ho k0 kl k5))⟩)
