/-! take, on both sides -/
def sF (A M : MM) (p : Int) : Prop := (∀ k, k ≠ 0 → k < 38 ∨ 62 < k → M k = A k) ∧ (∀ i, i ≠ 73 → M 0 i = A 0 i) ∧ ∀ k i, 38 ≤ k → k ≤ 59 → ¬ rw_ k p i → M k i = A k i
set_option maxHeartbeats 1000000 in
theorem p_R_study {Q : Int → MM → Prop} {C A : MM} {c : Nat} {p : Int} (hY : Rty C A) (hw : PW C c) (hb : Rpb C A c p) (p0 : 0 ≤ p) (p5 : p < 5) (hch : ∀ t, 0 ≤ t → t < C c 0 → C (c + 13) t = 0) (hlo : C c 16 = 0) (hq : ∀ M, sF A M p → Rpb C M c p → Rtb C M c p → Q 0 M) : w_X12_study Q p A := by
  have n0 := hw.1
  have n4 := hw.2.1
  unfold w_X12_study
  refine ⟨p0, p5, fun M1 e1 => ?_⟩
  have f1 : ∀ k, k ≠ 52 → M1 k = A k := fun k hk => funext fun i => by rw [e1, ux_c _ _ _ _ hk]
  refine loop3 _ (fun (a t : Int) M2 => p = a ∧ 0 ≤ t ∧ t ≤ C c 0 ∧ (∀ k, k ≠ 59 → M2 k = M1 k) ∧ (∀ i, ¬ (400 * p ≤ i ∧ i < 400 * p + 400) → M2 59 i = M1 59 i) ∧ ∀ u, 0 ≤ u → u < t → M2 59 (400 * p + u) = 0) (fun _ (t : Int) _ => (C c 0 - t).toNat) ?_ _ _ _ ⟨rfl, by omega, n0, fun _ _ => rfl, fun _ _ => rfl, fun u a b => by omega⟩
  rintro _ t M2 f ⟨rfl, t0, t1, f2, f59, hm⟩ ih
  have hb2 : Rpb C M2 c p := Rpb_M hb (fun k hk => by rw [f2 k (by intro q; rw [q] at hk; revert hk; decide), f1 k (by intro q; rw [q] at hk; revert hk; decide)])
  have hY2 : Rty C M2 := Rty_R hY (fun k a b _ => by rw [f2 k (by omega), f1 k (by omega)]) (by rw [f2 0 (by decide), f1 0 (by decide)])
  unfold wb_X12_study_b9
  refine ⟨p0, p5, fun v1 g1 _ => ?_⟩
  rw [← hb2.1] at g1
  subst g1
  refine ⟨fun z => ?_, fun z => p_at p0 p5 t0 (by omega) fun _ => ⟨by omega, by omega, fun M3 e3 => ⟨by unfold ri_; omega, ih _ _ _ ⟨rfl, by omega, by omega, fun k hk => by funext i; rw [e3, ux_c _ _ _ _ hk, f2 k hk], fun i hi => by rw [e3, ux_i _ _ _ (by omega), f59 i hi], fun u u0 u1 => ?_⟩ (by omega)⟩⟩⟩
  · refine p_R_findWays hY2 hw hb2 p0 p5 fun M3 w3 t3 => ?_
    have hY3 := WF_Y hY2 w3
    have hb3 := WF_b hb2 w3
    refine p_R_findDominators hY3 hw hb3 p0 p5 fun M4 w4 t4 => ?_
    have hY4 := dF_Y hY3 w4
    have hb4 := dF_b hb3 w4
    refine p_R_findRings hY4 hw hb4 p0 p5 fun M5 w5 t5 n5 => ?_
    have hY5 := rgF_Y hY4 w5
    have hb5 := rgF_b hb4 w5
    refine p_R_findGroups hY5 hw hb5 p0 p5 fun M6 w6 t6 n6 => ?_
    have hb6 : Rpb C M6 c p := Rpb_M hb5 (fun k hk => w6.1 k (by intro q; rw [q] at hk; revert hk; decide) (by intro q; rw [q] at hk; revert hk; decide))
    have k1 : ∀ k i, 43 ≤ k → k ≤ 45 → M6 k i = M3 k i := fun k i a b => by rw [w6.1 k (by omega) (by omega), w5.1 k (by simp; omega), w4.1 k (by simp; omega)]
    have k2 : ∀ k i, 46 ≤ k → k ≤ 48 → M6 k i = M4 k i := fun k i a b => by rw [w6.1 k (by omega) (by omega), w5.1 k (by simp; omega)]
    have k3 : ∀ k i, k = 49 ∨ k = 53 → M6 k i = M5 k i := fun k i a => by rw [w6.1 k (by omega) (by omega)]
    have k4 : ∀ k i, k = 51 ∨ k = 52 ∨ k = 59 → M6 k i = M2 k i := fun k i a => by rw [w6.1 k (by omega) (by omega), w5.1 k (by simp; omega), w4.1 k (by simp; omega), w3.1 k (by simp; omega)]
    refine hq M6 ⟨fun k hk0 hk => ?_, fun i hi => ?_, fun k i a b hn => ?_⟩ hb6 ⟨fun x x0 x1 => ?_, ?_, by omega, by omega, fun k a b => by omega, ?_, ?_, ?_⟩
    · rw [w6.1 k (by omega) (by omega), w5.1 k (by simp; omega), w4.1 k (by simp; omega), w3.1 k (by simp; omega), f2 k (by omega), f1 k (by omega)]
    · rw [w6.1 0 (by decide) (by decide), w5.2.1 i hi, w4.2.1 i hi, w3.1 0 (by decide), f2 0 (by decide), f1 0 (by decide)]
    · have e12 : ∀ q, q ≠ 52 → q ≠ 59 → M2 q i = A q i := fun q x y => by rw [f2 q y, f1 q x]
      by_cases c1 : k = 43 ∨ k = 44 ∨ k = 45
      · rw [k1 k i (by omega) (by omega), w3.2 k i c1 (by unfold rw_ at hn; omega), e12 k (by omega) (by omega)]
      · by_cases c2 : k = 46 ∨ k = 47 ∨ k = 48
        · rw [k2 k i (by omega) (by omega), w4.2.2 k i c2 (by unfold rw_ at hn; omega), w3.1 k (by simp; omega), e12 k (by omega) (by omega)]
        · by_cases c3 : k = 49
          · rw [c3, k3 49 i (Or.inl rfl), w5.2.2.1 i (by unfold rw_ at hn; omega), w4.1 49 (by decide), w3.1 49 (by decide), e12 49 (by omega) (by omega)]
          · by_cases c4 : k = 53
            · rw [c4, k3 53 i (Or.inr rfl), w5.2.2.2 i (by unfold rw_ at hn; omega), w4.1 53 (by decide), w3.1 53 (by decide), e12 53 (by omega) (by omega)]
            · by_cases c5 : k = 50
              · rw [c5, w6.2.1 i (by unfold rw_ at hn; omega), w5.1 50 (by decide), w4.1 50 (by decide), w3.1 50 (by decide), e12 50 (by omega) (by omega)]
              · by_cases c6 : k = 54
                · rw [c6, w6.2.2 i (by unfold rw_ at hn; omega), w5.1 54 (by decide), w4.1 54 (by decide), w3.1 54 (by decide), e12 54 (by omega) (by omega)]
                · rw [w6.1 k c5 c6, w5.1 k (by simp; omega), w4.1 k (by simp; omega), w3.1 k (by simp; omega)]
                  by_cases c7 : k = 59
                  · rw [c7, f59 i (by unfold rw_ at hn; omega), f1 59 (by decide)]
                  · by_cases c8 : k = 52
                    · rw [c8, f2 52 (by decide), e1, ux_i _ _ _ (by unfold rw_ at hn; omega)]
                    · exact e12 k c8 c7
    · obtain ⟨q1, q2, q3⟩ := t3 x x0 x1
      rw [k1 43 _ (by omega) (by omega), k1 44 _ (by omega) (by omega), k1 45 _ (by omega) (by omega), k4 59 _ (by omega), q1, q2, q3, hm x x0 (by omega), hch x x0 x1]
      exact ⟨rfl, rfl, rfl, rfl⟩
    · rw [k4 52 _ (by omega), f2 52 (by decide), e1, ux_s, hlo]
    · have := dTab_of hw t4
      intro x x0 x1
      have h := this x x0 x1
      simp only [k2 46 _ (by omega) (by omega), k2 47 _ (by omega) (by omega), k2 48 _ (by omega) (by omega)]
      exact h
    · refine ⟨by rw [k3 53 _ (Or.inr rfl)]; exact n5, fun x x0 x1 => ?_⟩
      have h := t5 x x0 x1
      simp only [k3 49 _ (Or.inl rfl)]
      exact h
    · exact ⟨n6, t6⟩
  · rw [e3]
    by_cases y : u = t
    · rw [y, ux_s]
    · rw [ux_i _ _ _ (by omega)]; exact hm u u0 (by omega)
/-- a new picture among the others -/
theorem ps_put {C C' R R' R0 : MM} {cs : Int → Nat} {p : Int} (hY : Rty C R0) (p0 : 0 ≤ p) (p4 : p < 4) (h1 : ∀ q, 0 ≤ q → q < 4 → C 45 q = cs q ∧ Rpic C R (cs q) q) (h2 : C 0 5 = cs 4) (h3 : PF C (cs 4)) (h4 : ∀ q, 0 ≤ q → q < 5 → isP (cs q)) (h5 : ∀ q r, 0 ≤ q → q < r → r < 5 → cs q ≠ cs r) (hn : Rpic C' R' (cs p) p) (e : ∀ k, ¬ (cs p ≤ k ∧ k ≤ cs p + 32) → C' k = C k) (r : ∀ k i, 38 ≤ k → k ≤ 59 → ¬ rw_ k p i → R' k i = R k i) : Rps C' R' := by
  have hi : ∀ q, 0 ≤ q → q < 5 → q ≠ p → (cs p + 33 ≤ cs q ∨ cs q + 33 ≤ cs p) := fun q a b hne => by
    have x1 := h4 q a b
    have x2 := h4 p p0 (by omega)
    have x3 : cs q ≠ cs p := by
      by_cases y : q < p
      · exact h5 q p a y (by omega)
      · exact fun z => h5 p q p0 (by omega) b z.symm
    unfold isP at x1 x2
    omega
  have hp := h4 p p0 (by omega)
  unfold isP at hp
  have tl : tyLe C C' := tyLe_of (by rw [e 8 (by omega)]) (fun k a b => e k (by omega))
  refine ⟨cs, fun q a b => ⟨by rw [e 45 (by omega)]; exact (h1 q a b).1, ?_⟩, by rw [e 0 (by omega)]; exact h2, ?_, h4, h5⟩
  · by_cases y : q = p
    · rw [y]; exact hn
    · have hd := hi q a (by omega) y
      exact pic_fr hY (h1 q a b).2 tl (fun k x z => e k (by omega)) (fun k i x z w => r k i x z (fun w2 => by unfold rw_ at w w2; omega))
  · have hd := hi 4 (by omega) (by omega) (by omega)
    unfold PF at h3 ⊢
    rw [e (cs 4) (by omega), e (cs 4 + 1) (by omega), e (cs 4 + 4) (by omega), e (cs 4 + 8) (by omega), e (cs 4 + 13) (by omega)]
    exact h3
/-- the memories have changed in pictures and scratch alone -/
def FPc (C C' : MM) : Prop := (∀ k, k ≠ 0 → k < 45 ∨ 210 < k → C' k = C k) ∧ (∀ i, i ≠ 5 → C' 0 i = C 0 i)
def FPr (R R' : MM) : Prop := (∀ k, k ∉ [0, 36, 37] → k < 38 ∨ 62 < k → R' k = R k) ∧ ∀ i, i ∉ ([0, 47, 73] : List Int) → R' 0 i = R 0 i
theorem RB_p {C R C' R' : MM} (hB : RB C R) (hJ : Rjn C R) (c : ∀ k, k ≠ 0 → k < 45 ∨ 210 < k → C' k = C k) (r : ∀ k, k ∉ [0, 36, 37] → k < 38 → R' k = R k) (r0 : ∀ i, i ∉ ([0, 47, 73, 75] : List Int) → R' 0 i = R 0 i) : RB C' R' ∧ Rjn C' R' := by
  have hH := hB.2.2
  have q := hH.2.2.2.2.2.2.2.2.2.2.2.1
  have hH2 : Rhp C' R' := Rhp_C hH (fun k hk => c k (by intro q; rw [q] at hk; revert hk; decide) (by simp at hk; omega)) (by rw [c 8 (by decide) (by omega)]) (fun i _ => by rw [c 26 (by decide) (by omega)]) (fun k hk => r k (by intro q; simp at q hk; omega) (by simp at hk; omega)) (fun i hi => r0 i (by revert hi; simp; omega)) (by
    unfold Rrt at q ⊢
    rw [c 26 (by decide) (by omega), c 33 (by decide) (by omega), r 24 (by decide) (by omega), r0 31 (by decide), hOk_eq (by rw [c 26 (by decide) (by omega)]) (c 27 (by decide) (by omega))]
    exact q)
  refine ⟨RB_of hB hH2 (fun k a b => c k (by omega) (by omega)) (fun k a b _ => r k (by simp; omega) (by omega)) (fun i hi => r0 i (by revert hi; simp; omega)), ?_⟩
  exact le_jn hB.1.2.2.2.2 hH (hpLe_e (fun k a b _ => c k (by omega) (by omega)) (by rw [c 26 (by decide) (by omega)]) (fun k hk => c k (by intro q; rw [q] at hk; revert hk; decide) (by simp at hk; omega))) hJ (fun k a b => c k (by omega) (by omega)) (fun k a b => r k (by simp; omega) (by omega)) (fun i hi => r0 i (by revert hi; simp; omega))
theorem kb_0 : jand 0 1 = 0 ∧ jand 0 2 = 0 ∧ jand 0 4 = 0 ∧ jand 0 8 = 0 := by decide
/-- the state of both, pictures with it -/
def RD (C R : MM) : Prop := RB C R ∧ Rjn C R ∧ Rps C R
theorem RD_00 {C R : MM} (h : RD C R) (x : Int) : RD C (ux_ R 0 0 x) := ⟨RB_00 h.1 x, Rjn_00 h.2.1 x, ps_fr h.1.1.2.2.2.2 h.2.2 (tyLe_of rfl (fun _ _ _ => rfl)) (fun _ _ _ => rfl) rfl (fun k a b => funext fun i => ux_c _ _ _ _ (by omega))⟩
set_option maxHeartbeats 1000000 in
theorem t_take {C R : MM} {p : Int} (h : RD C R) : w_X11_take (fun r C' => w_X12_take (fun r' R' => r = r' ∧ R' 0 0 = 0 ∧ RD C' R' ∧ FPc C C' ∧ FPr R R') p R) (fun E C' => C' = C ∧ w_X12_take (fun r' R' => R' = ux_ R 0 0 1) p R) p C := by
  obtain ⟨hB, hJ, cs, h1, h2, h3, h4, h5⟩ := h
  have hY := hB.1.2.2.2.2
  have hH := hB.2.2
  unfold w_X11_take w_X11_needPicture w_X11_isPicture
  have bad : ¬ (0 ≤ p ∧ p < 4) → w_X12_take (fun r' R' => R' = ux_ R 0 0 1) p R := by
    intro hp
    have go : w_X12_take_b14 (fun r' R' => R' = ux_ R 0 0 1) p 1 R := by
      unfold w_X12_take_b14
      intro M1 e1 v2 e2 _
      have : v2 = 1 := by rw [e2, e1, ux_s]
      exact ⟨fun q => by omega, fun _ => e1⟩
    unfold w_X12_take w_X12_isPicture
    exact ⟨fun _ _ => ⟨fun _ => go, fun q => absurd rfl q⟩, fun z => ⟨fun _ _ => ⟨fun _ => go, fun q => absurd rfl q⟩, fun z2 => by omega⟩⟩
  refine ⟨fun z _ => ⟨fun q => absurd rfl q, fun _ => ⟨rfl, bad (by omega)⟩⟩, fun z => ⟨fun z2 _ => ⟨fun q => absurd rfl q, fun _ => ⟨rfl, bad (by omega)⟩⟩, fun z2 _ => ⟨fun _ => ⟨by omega, by omega, cs p, (h1 p (by omega) (by omega)).1, h4 p (by omega) (by omega), ?_⟩, fun q => by omega⟩⟩⟩
  have p0 : 0 ≤ p := by omega
  have p4 : p < 4 := by omega
  have hc := pB_of (h4 p p0 (by omega))
  have hpic := (h1 p p0 p4).2
  refine p_takeFrom hc hY hH (PF_of hpic.1) fun C0 M hE hT hS => ?_
  obtain ⟨hw, eM, f4, h7⟩ := PW_take hc hY hH hE hT hS
  have hc' := hc
  unfold pB at hc'
  have eC : ∀ k, ¬ (cs p ≤ k ∧ k ≤ cs p + 18) → M k = C k := fun k hk => by rw [hT.1 k (by omega), hE.1 k (by omega) (by omega) (by omega) (by omega)]
  refine ⟨by omega, by omega, cs p, by rw [eC 45 (by omega)]; exact (h1 p p0 p4).1, h4 p p0 (by omega), fun v6 e6 _ => ?_⟩
  -- the reference
  unfold w_X12_take w_X12_isPicture
  refine ⟨fun q => absurd q z, fun _ => ⟨fun q => absurd q z2, fun _ _ => ⟨fun q => by omega, fun _ => ?_⟩⟩⟩
  unfold w_X12_take_b14
  intro A1 g1 v2 g2 _
  have : v2 = 0 := by rw [g2, g1, ux_s]
  refine ⟨fun _ => ?_, fun q => by omega⟩
  have hB1 : RB C A1 := by rw [g1]; exact RB_00 hB 0
  refine p_R_picture0 hB1.1.2.2.2.2 hB1.2.2 p0 (by omega) fun A A2 hA hfP hRP => ?_
  have hbb := Rpb_take hc hY hH hE hT hS hRP
  have hYA : Rty M A2 := by
    have x : Rty C A2 := Rty_R hB1.1.2.2.2.2 (fun k a b _ => by rw [hfP.1 k (by omega), hA.1 k (by simp; omega)]) (by rw [hfP.1 0 (by omega), hA.2.1 20 (by decide)])
    exact Rty_C x (fun k a b => eM k (by omega))
  have n0 := hw.1
  have hch : ∀ t, 0 ≤ t → t < M (cs p) 0 → M (cs p + 13) t = 0 := fun t t0 t1 => by
    rw [hT.1 (cs p + 13) (by omega)]
    exact hE.2.2.2.2.2.2.1 t t0 (by have := hw.2.1; omega)
  have hlo : M (cs p) 16 = 0 := by rw [hT.2.1 16 (by decide) (by decide)]; exact hE.2.2.2.2.1
  refine p_R_study hYA hw hbb p0 (by omega) hch hlo fun A3 hs hb3 ht3 => ⟨p0, by omega, fun v8 e8 _ => ?_⟩
  have hsh : ShK M A3 (cs p) p := by
    have k1 : M (cs p + 18) 1 = 0 := by rw [hT.1 (cs p + 18) (by omega)]; exact hE.2.2.2.2.2.2.2.1
    obtain ⟨j1, j2, j4, j8⟩ := kb_0
    refine ⟨by omega, by omega, fun q => absurd (by rw [k1]; exact j1) q, fun q => absurd (by rw [k1]; exact j2) q, fun q => absurd (by rw [k1]; exact j4) q, fun q => absurd (by rw [k1]; exact j8) q⟩
  have rfr : ∀ k, k ∉ [0, 36, 37] → k < 38 ∨ 62 < k → A3 k = R k := fun k hk hk2 => by
    simp at hk
    rw [hs.1 k (by omega) (by omega), hfP.1 k (by omega), hA.1 k (by simp; omega), g1]
    funext i
    rw [ux_c _ _ _ _ (by omega)]
  have r0fr : ∀ i, i ∉ ([0, 47, 73] : List Int) → A3 0 i = R 0 i := fun i hi => by
    simp at hi
    rw [hs.2.1 i (by omega), hfP.1 0 (by omega), hA.2.1 i (by omega), g1, ux_i _ _ _ (by omega)]
  have cfr : ∀ k, k ≠ 0 → k < 45 ∨ 210 < k → M k = C k := fun k hk hk2 => eC k (by omega)
  obtain ⟨nB, nJ⟩ := RB_p hB hJ cfr (fun k a b => rfr k a (Or.inl b)) (fun i hi => r0fr i (fun q => hi (by revert q; simp; omega)))
  refine ⟨by rw [e6, e8, hb3.1], ?_, ⟨nB, nJ, ?_⟩, ⟨cfr, fun i _ => by rw [eC 0 (by omega)]⟩, ⟨rfr, r0fr⟩⟩
  · rw [hs.2.1 0 (by decide), hfP.1 0 (by omega), hA.2.1 0 (by decide), g1, ux_s]
  · refine ps_put hY p0 p4 h1 h2 h3 h4 h5 ⟨hw, hb3, ht3, hsh⟩ (fun k hk => eC k (by omega)) (fun k i a b hn => ?_)
    rw [hs.2.2 k i a b hn, hfP.2 k i a b hn, hA.1 k (by simp; omega), g1, ux_c _ _ _ _ (by omega)]
