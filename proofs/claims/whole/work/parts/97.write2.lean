/-! the relation behind a write -/
theorem hp_dis {C R R0 : MM} (hY : Rty C R0) (hH : Rhp C R) {o o' : Int} (ho : hOk C o) (ho' : hOk C o') (hl : o < o') : C 29 o + ln C o ≤ C 29 o' ∧ R 21 o + ln C o ≤ R 21 o' := by
  obtain ⟨h1, h2, h3, h4, h5, h6, h7, h8, h9, h10, h11, -⟩ := hH
  refine ⟨?_, h11 o o' ho.1 hl ho'.2.1 ho.2.2 ho'.2.2⟩
  have hnn : ∀ o : Int, 0 ≤ o → o < ((C 26 1).toNat : Nat) → C 27 o ≠ -1 → 0 ≤ ln C o := fun o a b c => by
    obtain ⟨-, r⟩ := h10 o a (by omega)
    obtain ⟨r1, r2, r3, r4, r5, r6, -⟩ := r c
    exact (ln_bd hY r2 r5 r6).1
  have a1 := ho.1
  have a2 := ho.2.1
  have a3 := ho'.2.1
  have m := sm_mono hnn (o.toNat + 1) o'.toNat (by omega) (by omega)
  have e : sm C (o.toNat + 1) = sm C o.toNat + ln C o := by
    show sm C o.toNat + (if C 27 ((o.toNat : Nat) : Int) = -1 then 0 else ln C ((o.toNat : Nat) : Int)) = _
    rw [show ((o.toNat : Nat) : Int) = o from by omega, if_neg ho.2.2]
  have f1 := ((h10 o a1 a2).2 ho.2.2).2.2.2.2.2.2.1
  have f2 := ((h10 o' ho'.1 a3).2 ho'.2.2).2.2.2.2.2.2.1
  omega
theorem hp_set {C R R0 C' R' : MM} {o s v : Int} (hY : Rty C R0) (h : Rhp C R) (ho : hOk C o) (s0 : 0 ≤ s) (s1 : s < ln C o) (hv : vK C (kA C (C 27 o) s) (lA C (C 27 o) s) v)
    (c : ∀ k, k ∈ [11, 12, 14, 16, 19, 20, 21, 24, 25, 27, 28, 29, 31, 32, 33] → C' k = C k) (c8 : C' 8 0 = C 8 0) (c26 : ∀ i, i ∈ ([1, 2, 3, 11] : List Int) → C' 26 i = C 26 i) (c30 : ∀ i, C' 30 i = if i = C 29 o + s then v else C 30 i)
    (r : ∀ k, k ∈ [6, 19, 20, 21, 22, 24] → R' k = R k) (r0 : ∀ i, i ∈ ([26, 27, 28, 31] : List Int) → R' 0 i = R 0 i) (r23 : ∀ i, R' 23 i = if i = R 21 o + s then v else R 23 i) : Rhp C' R' := by
  have hH := h
  have q1 := c26 1 (by decide)
  have k27 := c 27 (by decide)
  have e1 := ln_eq (c 16 (by decide)) k27 (c 28 (by decide))
  have e2 := sm_eq (c 16 (by decide)) k27 (c 28 (by decide))
  have e3 := ct_eq (C := C) (C' := C') k27
  have e4 := vK_eq (c 11 (by decide)) q1 k27
  have e5 := vL_eq (c 11 (by decide)) q1 k27
  have e6 := hOk_eq (C := C) (C' := C') q1 k27
  obtain ⟨h1, h2, h3, h4, h5, h6, h7, h8, h9, h10, h11, h12, h13, h14⟩ := h
  refine ⟨?_, ?_, ?_, ?_, ?_, ?_, ?_, ?_, ?_, ?_, ?_, ?_, ?_, ?_⟩
  · rw [q1, r0 26 (by decide)]; exact h1
  · rw [q1]; exact h2
  · rw [q1]; exact h3
  · rw [c26 2 (by decide), q1, e3]; exact h4
  · rw [c26 3 (by decide), r0 28 (by decide)]; exact h5
  · rw [c26 3 (by decide), q1, e2]; exact h6
  · rw [c26 3 (by decide)]; exact h7
  · rw [r0 27 (by decide)]; exact h8
  · rw [q1, r0 27 (by decide)]; exact h9
  · rw [q1]
    intro o' o0 o1
    have := h10 o' o0 o1
    unfold Rob at this ⊢
    rw [k27, c 28 (by decide), c 29 (by decide), c 31 (by decide), c 12 (by decide), c8, e1, e2, e4, kA_fe (c 24 (by decide)), lA_fe (c 25 (by decide)), r 19 (by decide), r 20 (by decide), r 21 (by decide), r 22 (by decide), r0 27 (by decide)]
    refine ⟨this.1, fun hne => ?_⟩
    obtain ⟨a1, a2, a3, a4, a5, a6, a7, a8, a9, a10⟩ := this.2 hne
    refine ⟨a1, a2, a3, a4, a5, a6, a7, a8, a9, fun k k0 k1 => ?_⟩
    rw [c30, r23]
    by_cases z : o' = o
    · subst z
      by_cases z2 : k = s
      · subst z2
        rw [if_pos rfl, if_pos rfl]
        exact ⟨rfl, (a10 k k0 k1).2.1, hv⟩
      · rw [if_neg (by omega), if_neg (by omega)]
        exact a10 k k0 k1
    · have ho' : hOk C o' := ⟨o0, o1, hne⟩
      by_cases z2 : o < o'
      · have := hp_dis hY hH ho ho' z2
        rw [if_neg (by omega), if_neg (by omega)]
        exact a10 k k0 k1
      · have := hp_dis hY hH ho' ho (by omega)
        rw [if_neg (by omega), if_neg (by omega)]
        exact a10 k k0 k1
  · rw [q1, k27, e1, r 21 (by decide)]; exact h11
  · unfold Rrt at h12 ⊢; rw [c26 11 (by decide), r0 31 (by decide), c 33 (by decide), r 24 (by decide), e6]; exact h12
  · unfold Rst at h13 ⊢; rw [c 32 (by decide), r 6 (by decide)]; exact h13
  · unfold Rsv at h14 ⊢; rw [c8, c 14 (by decide), c 19 (by decide), c 20 (by decide), c 21 (by decide), c 32 (by decide), e5]; exact h14
theorem hp_setS {C R C' R' : MM} {g v : Int} (h : Rhp C R) (hv : uS C g v)
    (c : ∀ k, k ∈ [11, 12, 14, 16, 19, 20, 21, 24, 25, 27, 28, 29, 30, 31, 33] → C' k = C k) (c8 : C' 8 0 = C 8 0) (c26 : ∀ i, i ∈ ([1, 2, 3, 11] : List Int) → C' 26 i = C 26 i) (c32 : ∀ i, C' 32 i = if i = g then v else C 32 i) (h6' : ∀ x, 0 ≤ x → x < C 8 0 → C 14 x ≤ 6)
    (r : ∀ k, k ∈ [19, 20, 21, 22, 23, 24] → R' k = R k) (r0 : ∀ i, i ∈ ([26, 27, 28, 31] : List Int) → R' 0 i = R 0 i) (r6 : ∀ i, R' 6 i = if i = g then v else R 6 i) : Rhp C' R' := by
  have q1 := c26 1 (by decide)
  have k27 := c 27 (by decide)
  have e1 := ln_eq (c 16 (by decide)) k27 (c 28 (by decide))
  have e2 := sm_eq (c 16 (by decide)) k27 (c 28 (by decide))
  have e3 := ct_eq (C := C) (C' := C') k27
  have e4 := vK_eq (c 11 (by decide)) q1 k27
  have e5 := vL_eq (c 11 (by decide)) q1 k27
  have e6 := hOk_eq (C := C) (C' := C') q1 k27
  obtain ⟨h1, h2, h3, h4, h5, h6, h7, h8, h9, h10, h11, h12, h13, h14⟩ := h
  refine ⟨?_, ?_, ?_, ?_, ?_, ?_, ?_, ?_, ?_, ?_, ?_, ?_, ?_, ?_⟩
  · rw [q1, r0 26 (by decide)]; exact h1
  · rw [q1]; exact h2
  · rw [q1]; exact h3
  · rw [c26 2 (by decide), q1, e3]; exact h4
  · rw [c26 3 (by decide), r0 28 (by decide)]; exact h5
  · rw [c26 3 (by decide), q1, e2]; exact h6
  · rw [c26 3 (by decide)]; exact h7
  · rw [r0 27 (by decide)]; exact h8
  · rw [q1, r0 27 (by decide)]; exact h9
  · rw [q1]
    intro o' o0 o1
    have := h10 o' o0 o1
    unfold Rob at this ⊢
    rw [k27, c 28 (by decide), c 29 (by decide), c 30 (by decide), c 31 (by decide), c 12 (by decide), c8, e1, e2, e4, kA_fe (c 24 (by decide)), lA_fe (c 25 (by decide)), r 19 (by decide), r 20 (by decide), r 21 (by decide), r 22 (by decide), r 23 (by decide), r0 27 (by decide)]
    exact this
  · rw [q1, k27, e1, r 21 (by decide)]; exact h11
  · unfold Rrt at h12 ⊢; rw [c26 11 (by decide), r0 31 (by decide), c 33 (by decide), r 24 (by decide), e6]; exact h12
  · unfold Rst at h13 ⊢
    intro f f0 f1
    rw [c32, r6]
    by_cases z : f = g
    · rw [if_pos z, if_pos z]
    · rw [if_neg z, if_neg z]; exact h13 f f0 f1
  · unfold Rsv at h14 ⊢
    rw [c8, c 14 (by decide), c 19 (by decide), c 20 (by decide), c 21 (by decide), e5]
    intro d k d0 d1 k0 k1 k2 k5
    rw [c32]
    by_cases z : 6 * d + k = g
    · rw [if_pos z]
      obtain ⟨x, y, x0, x1, y0, y1, e, hf⟩ := hv
      rw [← z] at hf
      exact hf k5
    · rw [if_neg z]; exact h14 d k d0 d1 k0 k1 k2 k5
theorem uE_c {C C' : MM} (c : ∀ k, k ∈ [8, 11, 14, 16, 19, 20, 24, 25, 27, 28, 29] → C' k = C k) (c26 : C' 26 1 = C 26 1) : uE C' = uE C := by
  have e1 := ln_eq (c 16 (by decide)) (c 27 (by decide)) (c 28 (by decide))
  have e4 := vK_eq (c 11 (by decide)) c26 (c 27 (by decide))
  have e5 := vL_eq (c 11 (by decide)) c26 (c 27 (by decide))
  have e6 := hOk_eq (C := C) (C' := C') c26 (c 27 (by decide))
  funext a b d e
  unfold uE uS
  rw [e1, e4, e5, e6, kA_fe (c 24 (by decide)), lA_fe (c 25 (by decide)), c 8 (by decide), c 14 (by decide), c 19 (by decide), c 20 (by decide), c 27 (by decide), c 29 (by decide)]
theorem Rud_e {C R C' R' : MM} (h : Rud C R) (hu : ∀ cp cv ro rs, uE C cp cv ro rs → uE C' cp cv ro rs) (c5 : C' 36 5 = C 36 5) (c6 : C' 36 6 = C 36 6) (c : ∀ k, k ∈ [37, 38, 39] → C' k = C k) (r36 : R' 0 36 = R 0 36) (r : ∀ k, k ∈ [25, 26, 27, 28] → R' k = R k) : Rud C' R' := by
  unfold Rud at h ⊢
  rw [c5, c6, c 37 (by decide), c 38 (by decide), c 39 (by decide), r36, r 25 (by decide), r 26 (by decide), r 27 (by decide), r 28 (by decide)]
  obtain ⟨h1, h2, h3, h4, h5, h6⟩ := h
  exact ⟨h1, h2, h3, h4, h5, fun k k0 k1 => ⟨(h6 k k0 k1).1, (h6 k k0 k1).2.1, hu _ _ _ _ (h6 k k0 k1).2.2⟩⟩
theorem Rwt_e {C R C' R' : MM} (h : Rwt C R) (c7 : C' 36 7 = C 36 7) (c : ∀ k, k ∈ [40, 41, 42, 43, 44] → C' k = C k) (c8 : C 8 0 ≤ C' 8 0) (c14 : ∀ x k, 0 ≤ x → x < C 8 0 → 0 ≤ k → k < C 14 x → k < C' 14 x) (r44 : R' 0 44 = R 0 44) (r : ∀ k, k ∈ [29, 30, 31, 32, 33, 34, 35] → R' k = R k) : Rwt C' R' := by
  unfold Rwt Rrow at h ⊢
  rw [c7, c 40 (by decide), c 41 (by decide), c 42 (by decide), c 43 (by decide), c 44 (by decide), r44, r 29 (by decide), r 30 (by decide), r 31 (by decide)]
  obtain ⟨h1, h2, h3, h4, h5⟩ := h
  refine ⟨h1, h2, h3, fun w w0 w1 => ?_, h5⟩
  obtain ⟨a1, a2, a3, a4, a5, a6, a7, a8, a9, a10, a11, a12⟩ := h4 w w0 w1
  refine ⟨a1, by omega, a3, c14 _ _ a1 a2 a3 a4, a5, a6, a7, a8, a9, a10, a11, fun j q j0 j1 q4 => ?_⟩
  rw [a12 j q j0 j1 q4]
  have : q = 0 ∨ q = 1 ∨ q = 2 ∨ q = 3 := by omega
  rcases this with rfl | rfl | rfl | rfl
  · rw [r (32 + 0) (by decide)]
  · rw [r (32 + 1) (by decide)]
  · rw [r (32 + 2) (by decide)]
  · rw [r (32 + 3) (by decide)]
set_option maxHeartbeats 800000 in
theorem rel_w {C R Ca Ra C1 R1 : MM} {p b o s v : Int} {D D' : Int → Prop} (hB : RB C R) (hJ : Rjn C R) (hH : Rhp Ca Ra) (ca : ∀ k, k ≠ 30 → k ≠ 32 → Ca k = C k) (ra : ∀ k, k ≠ 6 → k ≠ 23 → Ra k = R k) (hu : uE C p b o s) (hs : stC (rmC Ca p b) C1 (C 36 7) D o b v) (hr : stR (rmR Ra o s b) R1 (R 0 44) D' o b v) (hD : ∀ w, 0 ≤ w → w < C 36 7 → (D w ↔ D' w)) :
    RB (ux_ C1 36 1 (C 36 1 + 1)) (ux_ R1 0 29 (R 0 29 + 1)) ∧ Rjn (ux_ C1 36 1 (C 36 1 + 1)) (ux_ R1 0 29 (R 0 29 + 1)) ∧ (∀ k, k ∉ [30, 32, 36, 37, 38, 39, 43, 44] → ux_ C1 36 1 (C 36 1 + 1) k = C k) ∧ (∀ i, i ∉ ([1, 5, 6] : List Int) → ux_ C1 36 1 (C 36 1 + 1) 36 i = C 36 i) ∧ (∀ k, k ∉ [0, 6, 23, 25, 26, 27, 28, 31, 32, 33, 34, 35] → ux_ R1 0 29 (R 0 29 + 1) k = R k) ∧ (∀ i, i ∉ ([29, 36] : List Int) → ux_ R1 0 29 (R 0 29 + 1) 0 i = R 0 i) := by
  obtain ⟨hA, hL, hH0⟩ := hB
  obtain ⟨j1, j2, j3, j4⟩ := hJ
  have cb : ∀ k, k ≠ 36 → k ≠ 37 → k ≠ 38 → k ≠ 39 → k ≠ 43 → k ≠ 44 → ux_ C1 36 1 (C 36 1 + 1) k = Ca k := by
    intro k a1 a2 a3 a4 a5 a6
    funext i
    rw [ux_c _ _ _ _ a1, hs.1 k a5 a6, rmC_o Ca p b (by omega)]
  have cc : ∀ k, k ∉ [30, 32, 36, 37, 38, 39, 43, 44] → ux_ C1 36 1 (C 36 1 + 1) k = C k := by
    intro k hk
    simp at hk
    rw [cb k (by omega) (by omega) (by omega) (by omega) (by omega) (by omega), ca k (by omega) (by omega)]
  have c36 : ∀ i, i ∉ ([1, 5, 6] : List Int) → ux_ C1 36 1 (C 36 1 + 1) 36 i = C 36 i := by
    intro i hi
    simp at hi
    rw [ux_i _ _ _ (by omega), hs.1 36 (by decide) (by decide), rmC_36 Ca p b (by omega) (by omega), ca 36 (by decide) (by decide)]
  have rb : ∀ k, k ≠ 0 → ¬ (25 ≤ k ∧ k ≤ 28) → ¬ (31 ≤ k ∧ k ≤ 35) → ux_ R1 0 29 (R 0 29 + 1) k = Ra k := by
    intro k a1 a2 a3
    funext i
    rw [ux_c _ _ _ _ a1, hr.1 k (by omega), rmR_o Ra o s b a1 (by omega)]
  have rc : ∀ k, k ∉ [0, 6, 23, 25, 26, 27, 28, 31, 32, 33, 34, 35] → ux_ R1 0 29 (R 0 29 + 1) k = R k := by
    intro k hk
    simp at hk
    rw [rb k (by omega) (by omega) (by omega), ra k (by omega) (by omega)]
  have r0 : ∀ i, i ∉ ([29, 36] : List Int) → ux_ R1 0 29 (R 0 29 + 1) 0 i = R 0 i := by
    intro i hi
    simp at hi
    rw [ux_i _ _ _ (by omega), hr.1 0 (by omega), rmR_0 Ra o s b (by omega), ra 0 (by decide) (by decide)]
  refine ⟨⟨?_, ?_, ?_⟩, ⟨?_, ?_, ?_, ?_⟩, cc, c36, rc, r0⟩
  · refine RA_R (RA_of hA (by rw [cc 1 (by decide)]) (fun k i a b _ _ _ => by rw [cc k (by simp; omega)]) (fun k i _ _ => rfl) rfl rfl) (fun k a b c => rc k (by simp; omega)) (fun i hi => r0 i (by revert hi; simp; omega))
  · exact Rlk_of hL (by rw [cc 8 (by decide)]) (cc 14 (by decide)) (cc 19 (by decide)) (cc 20 (by decide))
  · refine Rhp_C hH (fun k hk => cb k (by intro q; rw [q] at hk; revert hk; decide) (by intro q; rw [q] at hk; revert hk; decide) (by intro q; rw [q] at hk; revert hk; decide) (by intro q; rw [q] at hk; revert hk; decide) (by intro q; rw [q] at hk; revert hk; decide) (by intro q; rw [q] at hk; revert hk; decide)) (by rw [cb 8 (by decide) (by decide) (by decide) (by decide) (by decide) (by decide)]) (fun i _ => by rw [cb 26 (by decide) (by decide) (by decide) (by decide) (by decide) (by decide)]) (fun k hk => rb k (by intro q; rw [q] at hk; revert hk; decide) (by intro q; simp at hk; omega) (by intro q; simp at hk; omega)) (fun i hi => by rw [r0 i (by revert hi; simp; omega), ra 0 (by decide) (by decide)]) ?_
    have q := hH.2.2.2.2.2.2.2.2.2.2.2.1
    unfold Rrt at q ⊢
    rw [cb 26 (by decide) (by decide) (by decide) (by decide) (by decide) (by decide), cb 33 (by decide) (by decide) (by decide) (by decide) (by decide) (by decide), rb 24 (by decide) (by decide) (by decide), r0 31 (by decide), hOk_eq (by rw [cb 26 (by decide) (by decide) (by decide) (by decide) (by decide) (by decide)]) (cb 27 (by decide) (by decide) (by decide) (by decide) (by decide) (by decide))]
    rw [ra 0 (by decide) (by decide)] at q
    exact q
  · rw [ux_s, ux_s, j1]
  · rw [ux_s]; omega
  · have hud : Rud Ca Ra := Rud_e j3 (fun a b d e q => by rw [uE_c (C := C) (C' := Ca) (fun k hk => ca k (by intro q; rw [q] at hk; revert hk; decide) (by intro q; rw [q] at hk; revert hk; decide)) (by rw [ca 26 (by decide) (by decide)])]; exact q) (by rw [ca 36 (by decide) (by decide)]) (by rw [ca 36 (by decide) (by decide)]) (fun k hk => ca k (by intro q; rw [q] at hk; revert hk; decide) (by intro q; rw [q] at hk; revert hk; decide)) (by rw [ra 0 (by decide) (by decide)]) (fun k hk => ra k (by intro q; rw [q] at hk; revert hk; decide) (by intro q; rw [q] at hk; revert hk; decide))
    have ue1 : uE (rmC Ca p b) = uE C := uE_c (fun k hk => by rw [rmC_o Ca p b (by simp at hk; omega)]; exact ca k (by intro q; rw [q] at hk; revert hk; decide) (by intro q; rw [q] at hk; revert hk; decide)) (by rw [rmC_o Ca p b (by omega), ca 26 (by decide) (by decide)])
    have ue2 : uE Ca = uE C := uE_c (fun k hk => ca k (by intro q; rw [q] at hk; revert hk; decide) (by intro q; rw [q] at hk; revert hk; decide)) (by rw [ca 26 (by decide) (by decide)])
    have ue3 : uE (ux_ C1 36 1 (C 36 1 + 1)) = uE C := uE_c (fun k hk => cc k (by intro q; simp at q; rcases q with rfl | rfl | rfl | rfl | rfl | rfl | rfl | rfl <;> simp at hk)) (by rw [cc 26 (by decide)])
    have st := ud_step (p := p) (b := b) (o := o) (s := s) hud (by rw [ca 36 (by decide) (by decide), ra 0 (by decide) (by decide)]; exact j1) (fun a b' d e q => by rw [ue1]; rw [ue2] at q; exact q) (by rw [ue1]; exact hu)
    refine Rud_e st (fun a b' d e q => by rw [ue3]; rw [ue1] at q; exact q) ?_ ?_ ?_ ?_ ?_
    · rw [ux_i _ _ _ (by decide), hs.1 36 (by decide) (by decide)]
    · rw [ux_i _ _ _ (by decide), hs.1 36 (by decide) (by decide)]
    · intro k hk
      funext i
      rw [ux_c _ _ _ _ (by intro q; rw [q] at hk; revert hk; decide), hs.1 k (by intro q; rw [q] at hk; revert hk; decide) (by intro q; rw [q] at hk; revert hk; decide)]
    · rw [ux_i _ _ _ (by decide), hr.1 0 (by omega)]
    · intro k hk
      funext i
      rw [ux_c _ _ _ _ (by intro q; rw [q] at hk; revert hk; decide), hr.1 k (by simp at hk; omega)]
  · have hw1 : Rwt (rmC Ca p b) (rmR Ra o s b) := Rwt_e j4 (by rw [rmC_36 Ca p b (by decide) (by decide), ca 36 (by decide) (by decide)]) (fun k hk => by rw [rmC_o Ca p b (by simp at hk; omega)]; exact ca k (by intro q; rw [q] at hk; revert hk; decide) (by intro q; rw [q] at hk; revert hk; decide)) (by rw [rmC_o Ca p b (by omega), ca 8 (by decide) (by decide)]; omega) (fun x k _ _ _ q => by rw [rmC_o Ca p b (by omega), ca 14 (by decide) (by decide)]; exact q) (by rw [rmR_0 Ra o s b (by decide), ra 0 (by decide) (by decide)]) (fun k hk => by rw [rmR_o Ra o s b (by intro q; rw [q] at hk; revert hk; decide) (by simp at hk; omega)]; exact ra k (by intro q; rw [q] at hk; revert hk; decide) (by intro q; rw [q] at hk; revert hk; decide))
    have hww : rmC Ca p b 36 1 = rmR Ra o s b 0 29 := by rw [rmC_36 Ca p b (by decide) (by decide), ca 36 (by decide) (by decide), rmR_0 Ra o s b (by decide), ra 0 (by decide) (by decide)]; exact j1
    have c7 : rmC Ca p b 36 7 = C 36 7 := by rw [rmC_36 Ca p b (by decide) (by decide), ca 36 (by decide) (by decide)]
    obtain ⟨h1, h2, h3, h4, h5⟩ := hw1
    have f36 : ux_ C1 36 1 (C 36 1 + 1) 36 7 = rmC Ca p b 36 7 := by rw [ux_i _ _ _ (by decide), hs.1 36 (by decide) (by decide)]
    have fk : ∀ k, k ≠ 36 → ux_ C1 36 1 (C 36 1 + 1) k = C1 k := fun k hk => funext fun i => ux_c _ _ _ _ hk
    have gk : ∀ k, k ≠ 0 → ux_ R1 0 29 (R 0 29 + 1) k = R1 k := fun k hk => funext fun i => ux_c _ _ _ _ hk
    unfold Rwt Rrow
    rw [f36, fk 40 (by decide), fk 41 (by decide), fk 42 (by decide), fk 43 (by decide), fk 44 (by decide), fk 8 (by decide), fk 14 (by decide), gk 29 (by decide), gk 30 (by decide), gk 31 (by decide), hs.1 40 (by decide) (by decide), hs.1 41 (by decide) (by decide), hs.1 42 (by decide) (by decide), hs.1 8 (by decide) (by decide), hs.1 14 (by decide) (by decide), hr.1 29 (by omega), hr.1 30 (by omega), ux_i _ _ _ (by decide), hr.1 0 (by omega)]
    refine ⟨h1, h2, h3, fun w w0 w1 => ?_, fun w w0 w1 => ?_⟩
    · obtain ⟨a1, a2, a3, a4, a5, a6, a7, a8, a9⟩ := h4 w w0 w1
      rw [c7] at w1
      have w6 : w < 6 := by omega
      have w44 : w < R 0 44 := by have := j4.1; omega
      have row : Rrow C1 R1 w := by
        by_cases z : D w
        · exact row_push a9 hww ((hs.2 w w0 w6).1 ⟨w1, z⟩) ((hr.2 w w0 w6).1 ⟨w44, (hD w w0 w1).mp z⟩)
        · exact row_same a9 ((hs.2 w w0 w6).2 (fun q => z q.2)) ((hr.2 w w0 w6).2 (fun q => z ((hD w w0 w1).mpr q.2)))
      obtain ⟨b1, b2, b3, b4⟩ := row
      refine ⟨a1, a2, a3, a4, a5, a6, a7, a8, b1, b2, b3, fun j q j0 j1 q4 => ?_⟩
      rw [gk _ (by omega)]
      exact b4 j q j0 j1 q4
    · rw [c7] at w0
      have := (hs.2 w (by omega) w1).2 (by omega)
      rw [this.1]
      exact h5 w (by rw [c7]; exact w0) w1
