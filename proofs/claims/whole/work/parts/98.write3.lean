/-! writes into slots and statics, on both sides -/
theorem wt_f {C R : MM} (hY : Rty C R) {w : Int} (a1 : 0 ≤ C 40 w) (a2 : C 40 w < C 8 0) (a3 : 0 ≤ C 41 w) (a4 : C 41 w < C 14 (C 40 w)) : C 41 w < 6 ∧ C 19 (6 * C 40 w + C 41 w) = R 12 (6 * C 40 w + C 41 w) := by
  have f6 := (hY.2.2.2.1 (C 40 w) a1 a2).1.2.2.2.2.2.2.2.2.2.1
  exact ⟨by omega, ((hY.2.2.2.1 (C 40 w) a1 a2).2.2.2 (C 41 w) a3 a4).2.1⟩
theorem d_eq {C R : MM} (hY : Rty C R) (hw : Rwt C R) {o s b v f w : Int} (t0 : 0 ≤ C 27 o) (t1 : C 27 o < C 8 0) (hf : fdAt C (C 27 o) s f) (w0 : 0 ≤ w) (w1 : w < C 36 7) : dC C o s b v w ↔ dR R f b v w := by
  have h16 := hY.2.2.1
  obtain ⟨a1, a2, a3, a4, a5, a6, a7, a8, -⟩ := hw.2.2.2.1 w w0 w1
  obtain ⟨b1, b2⟩ := wt_f hY a1 a2 a3 a4
  have fb := fdAt_bd hY hf
  obtain ⟨m, x, k, q1, q2, q3, q4, q5, q6, q7, q8, -⟩ := hf
  have k6 := (hY.2.2.2.1 x q2 q3).1.2.2.2.2.2.2.2.2.2.1
  unfold dC dR
  rw [a5, b2, a6]
  constructor
  · rintro ⟨c1, c2, c3, ⟨m', c4⟩, c5⟩
    have e : C 40 w = x := by
      have o1 := own_sl hY a1 a2 a3 a4 c1
      have o2 := own_sl hY q2 q3 q4 q5 (by rw [← q6]; exact q7)
      rw [c2] at o1
      rw [← q6, q8] at o2
      by_cases z : m = m'
      · rw [← c4, ← q1, z]
      · by_cases l : m < m'
        · have := upn_sl hY t0 t1 m (m' - m - 1)
          rw [show m + (m' - m - 1) + 1 = m' from by omega, q1, c4] at this
          have := this a1
          omega
        · have := upn_sl hY t0 t1 m' (m - m' - 1)
          rw [show m' + (m - m' - 1) + 1 = m from by omega, q1, c4] at this
          have := this q2
          omega
    have e2 : C 41 w = k := own_inj hY q2 q3 (by omega) (by rw [← e]; exact a4) (by rw [← e]; exact c1) q4 q5 (by rw [← q6]; exact q7) (by rw [← q6, q8, ← e]; exact c2)
    exact ⟨by omega, by rw [e, e2, q6], c5⟩
  · rintro ⟨c1, c2, c3⟩
    have e : C 40 w = x := by omega
    exact ⟨by rw [c2]; exact q7, by rw [c2]; exact q8, by omega, ⟨m, by rw [e]; exact q1⟩, c3⟩
theorem d_eqA {C R : MM} {o s b v w : Int} (t0 : 20 ≤ C 27 o) : dC C o s b v w ↔ dR R (-1) b v w := ⟨fun q => by have := q.2.2.1; omega, fun q => absurd rfl q.1⟩
theorem d_eqS {C R : MM} (hY : Rty C R) (hw : Rwt C R) {g b v w : Int} (g0 : 0 ≤ g) (w0 : 0 ≤ w) (w1 : w < C 36 7) : dS C g b v w ↔ dR R g b v w := by
  obtain ⟨a1, a2, a3, a4, a5, a6, a7, a8, -⟩ := hw.2.2.2.1 w w0 w1
  obtain ⟨b1, b2⟩ := wt_f hY a1 a2 a3 a4
  unfold dS dR
  rw [a5, b2, a6]
  exact ⟨fun q => ⟨by omega, q.1, q.2⟩, fun q => q.2⟩
theorem dC_c {C C' : MM} (c : ∀ k, k ∈ [11, 19, 21, 22, 27, 40, 41, 42] → C' k = C k) (o s b v w : Int) : dC C' o s b v w ↔ dC C o s b v w := by
  unfold dC
  rw [c 19 (by decide), c 21 (by decide), c 22 (by decide), c 27 (by decide), c 40 (by decide), c 41 (by decide), c 42 (by decide), heir_eq (c 11 (by decide))]
theorem dS_c {C C' : MM} (c : ∀ k, k ∈ [19, 40, 41, 42] → C' k = C k) (g b v w : Int) : dS C' g b v w ↔ dS C g b v w := by
  unfold dS
  rw [c 19 (by decide), c 40 (by decide), c 41 (by decide), c 42 (by decide)]
theorem dR_c {C C' : MM} (c : ∀ k, k ∈ [12, 29, 30] → C' k = C k) (g b v w : Int) : dR C' g b v w ↔ dR C g b v w := by
  unfold dR
  rw [c 12 (by decide), c 29 (by decide), c 30 (by decide)]
theorem stC_c {C C1 : MM} {n : Int} {D D' : Int → Prop} {o b v : Int} (h : ∀ w, D w ↔ D' w) (hs : stC C C1 n D o b v) : stC C C1 n D' o b v := by
  have : D = D' := funext fun w => propext (h w)
  rw [← this]; exact hs
theorem stR_c {C C1 : MM} {n : Int} {D D' : Int → Prop} {o b v : Int} (h : ∀ w, D w ↔ D' w) (hs : stR C C1 n D o b v) : stR C C1 n D' o b v := by
  have : D = D' := funext fun w => propext (h w)
  rw [← this]; exact hs
theorem p_writeSlot {Q : Int → MM → Prop} {o s v : Int} {C R R0 : MM} (hY : Rty C R0) (hH : Rhp C R) (hJ : Rjn C R) (ho : hOk C o) (s0 : 0 ≤ s) (s1 : s < ln C o) (wb : C 36 1 < 2147483647) (h : ∀ C1, stC (rmC (ux_ C 30 (C 29 o + s) v) (C 29 o + s) (C 30 (C 29 o + s))) C1 (C 36 7) (dC C o s (C 30 (C 29 o + s)) v) o (C 30 (C 29 o + s)) v → Q (C 36 1) (ux_ C1 36 1 (C 36 1 + 1))) : w_X3_writeSlot Q o s v C := by
  have hat := hp_at hY hH ho
  have ho0 := ho.1
  have hv := ((hH.2.2.2.2.2.2.2.2.2.1 o ho.1 ho.2.1).2 ho.2.2).2.1
  obtain ⟨j1, j2, j3, j4⟩ := hJ
  unfold w_X3_writeSlot
  refine ⟨ho.1, by omega, fun v1 e1 _ => ?_⟩
  subst e1
  refine ⟨by unfold ri_; omega, by omega, by omega, fun v3 e3 _ => ⟨by omega, by omega, fun M4 e4 => ?_⟩⟩
  subst e3 e4
  have ca : ∀ k, k ≠ 30 → ux_ C 30 (C 29 o + s) v k = C k := fun k hk => funext fun i => ux_c _ _ _ _ hk
  refine p_remember (by rw [ca 36 (by decide)]; exact j3.1) (by rw [ca 36 (by decide)]; exact j3.2.1) (by rw [ca 36 (by decide)]; exact j3.2.2.1) (by rw [ca 36 (by decide)]; exact j3.2.2.2.1) ?_
  have cm : ∀ k, k < 36 ∨ 39 < k → k ≠ 30 → rmC (ux_ C 30 (C 29 o + s) v) (C 29 o + s) (C 30 (C 29 o + s)) k = C k := fun k a b => by rw [rmC_o _ _ _ a, ca k b]
  have c36 : ∀ i, i ≠ 5 → i ≠ 6 → rmC (ux_ C 30 (C 29 o + s) v) (C 29 o + s) (C 30 (C 29 o + s)) 36 i = C 36 i := fun i a b => by rw [rmC_36 _ _ _ a b, ca 36 (by decide)]
  refine p_wLoop (R := R) (Rty_C hY (fun k a b => cm k (by omega) (by omega))) (Rwt_e j4 (c36 7 (by decide) (by decide)) (fun k hk => cm k (by simp at hk; omega) (by intro q; rw [q] at hk; revert hk; decide)) (by rw [cm 8 (by omega) (by decide)]; omega) (fun x k _ _ _ q => by rw [cm 14 (by omega) (by decide)]; exact q) rfl (fun _ _ => rfl)) ho.1 (by omega) (by rw [cm 8 (by omega) (by decide), cm 27 (by omega) (by decide)]; exact hv) (by rw [c36 1 (by decide) (by decide)]; exact j2) (by rw [c36 1 (by decide) (by decide)]; exact wb) fun C1 hs => ?_
  rw [c36 1 (by decide) (by decide)]
  rw [c36 7 (by decide) (by decide)] at hs
  exact h C1 (stC_c (fun w => dC_c (fun k hk => cm k (by simp at hk; omega) (by intro q; rw [q] at hk; revert hk; decide)) _ _ _ _ _) hs)
theorem p_writeStatic {Q : Int → MM → Prop} {g v : Int} {C R R0 : MM} (hY : Rty C R0) (hJ : Rjn C R) (g0 : 0 ≤ g) (g1 : g < 96) (wb : C 36 1 < 2147483647) (h : ∀ C1, stC (rmC (ux_ C 32 g v) (-1 - g) (C 32 g)) C1 (C 36 7) (dS C g (C 32 g) v) (-1) (C 32 g) v → Q (C 36 1) (ux_ C1 36 1 (C 36 1 + 1))) : w_X3_writeStatic Q g v C := by
  obtain ⟨j1, j2, j3, j4⟩ := hJ
  unfold w_X3_writeStatic
  refine ⟨g0, g1, fun v1 e1 _ => ⟨g0, g1, fun M2 e2 => ⟨by unfold ri_; omega, ?_⟩⟩⟩
  subst e1 e2
  have ca : ∀ k, k ≠ 32 → ux_ C 32 g v k = C k := fun k hk => funext fun i => ux_c _ _ _ _ hk
  refine p_remember (by rw [ca 36 (by decide)]; exact j3.1) (by rw [ca 36 (by decide)]; exact j3.2.1) (by rw [ca 36 (by decide)]; exact j3.2.2.1) (by rw [ca 36 (by decide)]; exact j3.2.2.2.1) ?_
  have cm : ∀ k, k < 36 ∨ 39 < k → k ≠ 32 → rmC (ux_ C 32 g v) (-1 - g) (C 32 g) k = C k := fun k a b => by rw [rmC_o _ _ _ a, ca k b]
  have c36 : ∀ i, i ≠ 5 → i ≠ 6 → rmC (ux_ C 32 g v) (-1 - g) (C 32 g) 36 i = C 36 i := fun i a b => by rw [rmC_36 _ _ _ a b, ca 36 (by decide)]
  refine p_wLoopS (R := R) (Rty_C hY (fun k a b => cm k (by omega) (by omega))) (Rwt_e j4 (c36 7 (by decide) (by decide)) (fun k hk => cm k (by simp at hk; omega) (by intro q; rw [q] at hk; revert hk; decide)) (by rw [cm 8 (by omega) (by decide)]; omega) (fun x k _ _ _ q => by rw [cm 14 (by omega) (by decide)]; exact q) rfl (fun _ _ => rfl)) (by rw [c36 1 (by decide) (by decide)]; exact j2) (by rw [c36 1 (by decide) (by decide)]; exact wb) fun C1 hs => ?_
  rw [c36 1 (by decide) (by decide)]
  rw [c36 7 (by decide) (by decide)] at hs
  exact h C1 (stC_c (fun w => dS_c (fun k hk => cm k (by simp at hk; omega) (by intro q; rw [q] at hk; revert hk; decide)) _ _ _ _) hs)
theorem wt_R {C R : MM} (hY : Rty C R) (hw : Rwt C R) : 0 ≤ R 0 44 ∧ R 0 44 ≤ 6 ∧ ∀ w, 0 ≤ w → w < R 0 44 → 0 ≤ R 29 w ∧ R 29 w < 96 ∧ 0 ≤ R 30 w ∧ R 30 w ≤ 3 ∧ 0 ≤ R 31 w ∧ R 31 w ≤ 6 := by
  have h16 := hY.2.2.1
  obtain ⟨h1, h2, h3, h4, -⟩ := hw
  refine ⟨by omega, by omega, fun w w0 w1 => ?_⟩
  obtain ⟨a1, a2, a3, a4, a5, a6, a7, a8, a9, a10, a11, -⟩ := h4 w w0 (by omega)
  have := wt_f hY a1 a2 a3 a4
  omega
theorem p_R_write {Q : Int → MM → Prop} {o s v : Int} {C R : MM} (hY : Rty C R) (hH : Rhp C R) (hJ : Rjn C R) (ho : hOk C o) (s0 : 0 ≤ s) (s1 : s < ln C o) (wb : R 0 29 < 2147483647) (h : ∀ g, (0 ≤ C 27 o ∧ C 27 o < C 8 0 ∧ fdAt C (C 27 o) s g) ∨ (20 ≤ C 27 o ∧ g = -1) → ∀ R1, stR (rmR (ux_ R 23 (R 21 o + s) v) o s (R 23 (R 21 o + s))) R1 (R 0 44) (dR R g (R 23 (R 21 o + s)) v) o (R 23 (R 21 o + s)) v → Q 0 (ux_ R1 0 29 (R 0 29 + 1))) : w_X12_write Q o s v R := by
  have hat := hp_at hY hH ho
  have ho0 := ho.1
  have h16 := hY.2.2.1
  obtain ⟨ty, hv, -⟩ := (hH.2.2.2.2.2.2.2.2.2.1 o ho.1 ho.2.1).2 ho.2.2
  obtain ⟨j1, j2, j3, j4⟩ := hJ
  obtain ⟨x1, x2, x3⟩ := wt_R hY j4
  have n36 := j3.2.2.2.2.1
  have ca : ∀ k, k ≠ 23 → ux_ R 23 (R 21 o + s) v k = R k := fun k hk => funext fun i => ux_c _ _ _ _ hk
  unfold w_X12_write
  refine ⟨fun _ => ⟨ho0, by omega, fun v2 e2 _ => ?_⟩, fun q => by omega⟩
  subst e2
  refine ⟨by unfold ri_; omega, by omega, by omega, fun v4 e4 _ => ?_⟩
  subst e4
  unfold w_X12_write_b27
  refine ⟨fun _ => ⟨ho0, by omega, fun v2 e2 _ => ?_⟩, fun q => by omega⟩
  subst e2
  refine ⟨by unfold ri_; omega, by omega, by omega, fun M4 e4 => ?_⟩
  subst e4
  have cm : ∀ k, k ≠ 0 → k < 25 ∨ 28 < k → k ≠ 23 → rmR (ux_ R 23 (R 21 o + s) v) o s (R 23 (R 21 o + s)) k = R k := fun k a b c => by rw [rmR_o _ _ _ _ a b, ca k c]
  have c0 : ∀ i, i ≠ 36 → rmR (ux_ R 23 (R 21 o + s) v) o s (R 23 (R 21 o + s)) 0 i = R 0 i := fun i a => by rw [rmR_0 _ _ _ _ a, ca 0 (by decide)]
  have fin : ∀ g, (0 ≤ C 27 o ∧ C 27 o < C 8 0 ∧ fdAt C (C 27 o) s g) ∨ (20 ≤ C 27 o ∧ g = -1) → w_X12_write_b248 Q o v (R 23 (R 21 o + s)) g (rmR (ux_ R 23 (R 21 o + s) v) o s (R 23 (R 21 o + s))) := by
    intro g hg
    unfold w_X12_write_b248
    refine p_R_wLoop (by rw [c0 44 (by decide)]; exact x1) (by rw [c0 44 (by decide)]; exact x2) (by rw [c0 44 (by decide), cm 29 (by decide) (by omega) (by decide), cm 30 (by decide) (by omega) (by decide), cm 31 (by decide) (by omega) (by decide)]; exact x3) (by rw [c0 29 (by decide)]; omega) (by rw [c0 29 (by decide)]; exact wb) fun R1 hs => ?_
    rw [c0 29 (by decide)]
    rw [c0 44 (by decide)] at hs
    exact h g hg R1 (stR_c (fun w => dR_c (fun k hk => cm k (by intro q; rw [q] at hk; revert hk; decide) (by simp at hk; omega) (by intro q; rw [q] at hk; revert hk; decide)) _ _ _ _) hs)
  refine p_R_remember (by rw [ca 0 (by decide), ← n36]; exact j3.2.2.1) (by rw [ca 0 (by decide), ← n36]; exact j3.2.2.2.1) ⟨fun _ => ⟨ho0, by omega, fun v14 e14 _ => ?_⟩, fun q => by omega⟩
  rw [cm 19 (by decide) (by omega) (by decide), ← ty] at e14
  subst e14
  have hY2 : Rty C (rmR (ux_ R 23 (R 21 o + s) v) o s (R 23 (R 21 o + s))) := Rty_R hY (fun k a b _ => cm k (by omega) (by omega) (by omega)) (c0 20 (by decide))
  unfold vT at hv
  have h20 := hY.1
  refine p_R_isClass (fun t0 t1 _ => ⟨fun q => by omega, fun _ => ⟨ho0, by omega, fun v18 e18 _ => ?_⟩⟩) (fun t0 _ => ⟨fun _ => fin (-1) (Or.inr ⟨?_, rfl⟩), fun q => absurd rfl q⟩)
  · rw [c0 20 (by decide), ← h20] at t1
    rw [cm 19 (by decide) (by omega) (by decide), ← ty] at e18
    subst e18
    refine p_R_fieldOf hY2 t0 t1 s0 ?_ (fun f hf _ => fin f (Or.inl ⟨t0, t1, hf⟩))
    unfold ln so at s1
    rw [if_neg (by omega)] at s1
    exact s1
  · rw [c0 20 (by decide), ← h20] at t0
    omega
theorem p_R_writeS {Q : Int → MM → Prop} {g v : Int} {C R : MM} (hY : Rty C R) (hJ : Rjn C R) (g0 : 0 ≤ g) (g1 : g < 96) (wb : R 0 29 < 2147483647) (h : ∀ R1, stR (rmR (ux_ R 6 g v) (-1) g (R 6 g)) R1 (R 0 44) (dR R g (R 6 g) v) (-1) (R 6 g) v → Q 0 (ux_ R1 0 29 (R 0 29 + 1))) : w_X12_write Q (-1) g v R := by
  obtain ⟨j1, j2, j3, j4⟩ := hJ
  obtain ⟨x1, x2, x3⟩ := wt_R hY j4
  have n36 := j3.2.2.2.2.1
  have ca : ∀ k, k ≠ 6 → ux_ R 6 g v k = R k := fun k hk => funext fun i => ux_c _ _ _ _ hk
  unfold w_X12_write
  refine ⟨fun q => absurd rfl q, fun _ => ⟨g0, g1, fun v5 e5 _ => ?_⟩⟩
  subst e5
  unfold w_X12_write_b27
  refine ⟨fun q => absurd rfl q, fun _ => ⟨g0, g1, fun M5 e5 => ?_⟩⟩
  subst e5
  have cm : ∀ k, k ≠ 0 → k < 25 ∨ 28 < k → k ≠ 6 → rmR (ux_ R 6 g v) (-1) g (R 6 g) k = R k := fun k a b c => by rw [rmR_o _ _ _ _ a b, ca k c]
  have c0 : ∀ i, i ≠ 36 → rmR (ux_ R 6 g v) (-1) g (R 6 g) 0 i = R 0 i := fun i a => by rw [rmR_0 _ _ _ _ a, ca 0 (by decide)]
  refine p_R_remember (by rw [ca 0 (by decide), ← n36]; exact j3.2.2.1) (by rw [ca 0 (by decide), ← n36]; exact j3.2.2.2.1) ⟨fun q => absurd rfl q, fun _ => ?_⟩
  unfold w_X12_write_b248
  refine p_R_wLoop (by rw [c0 44 (by decide)]; exact x1) (by rw [c0 44 (by decide)]; exact x2) (by rw [c0 44 (by decide), cm 29 (by decide) (by omega) (by decide), cm 30 (by decide) (by omega) (by decide), cm 31 (by decide) (by omega) (by decide)]; exact x3) (by rw [c0 29 (by decide)]; omega) (by rw [c0 29 (by decide)]; exact wb) fun R1 hs => ?_
  rw [c0 29 (by decide)]
  rw [c0 44 (by decide)] at hs
  exact h R1 (stR_c (fun w => dR_c (fun k hk => cm k (by intro q; rw [q] at hk; revert hk; decide) (by simp at hk; omega) (by intro q; rw [q] at hk; revert hk; decide)) _ _ _ _) hs)
/-- what a write leaves as it was -/
def FWc (C C' : MM) : Prop := (∀ k, k ∉ [30, 32, 36, 37, 38, 39, 43, 44] → C' k = C k) ∧ (∀ i, i ∉ ([1, 5, 6] : List Int) → C' 36 i = C 36 i)
def FWr (R R' : MM) : Prop := (∀ k, k ∉ [0, 6, 23, 25, 26, 27, 28, 31, 32, 33, 34, 35] → R' k = R k) ∧ (∀ i, i ∉ ([29, 36] : List Int) → R' 0 i = R 0 i)
/-- a write into a slot -/
theorem s_write {o s v : Int} {C R : MM} (hB : RB C R) (hJ : Rjn C R) (ho : hOk C o) (s0 : 0 ≤ s) (s1 : s < ln C o) (hv : vK C (kA C (C 27 o) s) (lA C (C 27 o) s) v) (wb : C 36 1 < 2147483647) : w_X3_writeSlot (fun r C' => r = C 36 1 ∧ w_X12_write (fun _ R' => RB C' R' ∧ Rjn C' R' ∧ FWc C C' ∧ FWr R R' ∧ C' 36 1 = C 36 1 + 1 ∧ C' 32 = C 32 ∧ (∀ i, C' 30 i = if i = C 29 o + s then v else C 30 i)) o s v R) o s v C := by
  have hA := hB.1
  have hH := hB.2.2
  have hY := hA.2.2.2.2
  have hat := hp_at hY hH ho
  have ob := ((hH.2.2.2.2.2.2.2.2.2.1 o ho.1 ho.2.1).2 ho.2.2).2.2.2.2.2.2.2.2.2 s s0 s1
  have eb : R 23 (R 21 o + s) = C 30 (C 29 o + s) := ob.1.symm
  refine p_writeSlot hY hH hJ ho s0 s1 wb fun C1 hs => ⟨rfl, ?_⟩
  refine p_R_write hY hH hJ ho s0 s1 (by rw [← hJ.1]; exact wb) fun g hg R1 hr => ?_
  rw [eb] at hr
  have ca : ∀ k, k ≠ 30 → ux_ C 30 (C 29 o + s) v k = C k := fun k hk => funext fun i => ux_c _ _ _ _ hk
  have ra : ∀ k, k ≠ 23 → ux_ R 23 (R 21 o + s) v k = R k := fun k hk => funext fun i => ux_c _ _ _ _ hk
  have hH2 : Rhp (ux_ C 30 (C 29 o + s) v) (ux_ R 23 (R 21 o + s) v) := hp_set hY hH ho s0 s1 hv (fun k hk => ca k (by intro q; rw [q] at hk; revert hk; decide)) (by rw [ca 8 (by decide)]) (fun i _ => by rw [ca 26 (by decide)]) (fun i => by
      by_cases z : i = C 29 o + s
      · rw [if_pos z, z, ux_s]
      · rw [if_neg z, ux_i _ _ _ z]) (fun k hk => ra k (by intro q; rw [q] at hk; revert hk; decide)) (fun i _ => by rw [ra 0 (by decide)]) (fun i => by
      by_cases z : i = R 21 o + s
      · rw [if_pos z, z, ux_s]
      · rw [if_neg z, ux_i _ _ _ z])
  have hD : ∀ w, 0 ≤ w → w < C 36 7 → (dC C o s (C 30 (C 29 o + s)) v w ↔ dR R g (C 30 (C 29 o + s)) v w) := by
    intro w w0 w1
    rcases hg with ⟨t0, t1, hf⟩ | ⟨t0, rfl⟩
    · exact d_eq hY hJ.2.2.2 t0 t1 hf w0 w1
    · exact d_eqA t0
  obtain ⟨g1, g2, g3, g4, g5, g6⟩ := rel_w hB hJ hH2 (fun k a _ => ca k a) (fun k _ a => ra k a) (Or.inr ⟨ho, s0, s1, rfl, ob.2.2⟩) hs hr hD
  refine ⟨g1, g2, ⟨g3, g4⟩, ⟨g5, g6⟩, ux_s _ _ _ _, ?_, ?_⟩
  · funext i
    rw [ux_c _ _ _ _ (by decide), hs.1 32 (by decide) (by decide), rmC_o _ _ _ (by omega), ca 32 (by decide)]
  · intro i
    rw [ux_c _ _ _ _ (by decide), hs.1 30 (by decide) (by decide), rmC_o _ _ _ (by omega)]
    by_cases z : i = C 29 o + s
    · rw [if_pos z, z, ux_s]
    · rw [if_neg z, ux_i _ _ _ z]
/-- a write into a static -/
theorem s_writeS {g v : Int} {C R : MM} (hB : RB C R) (hJ : Rjn C R) (hg : ∃ c k, 0 ≤ c ∧ c < C 8 0 ∧ 0 ≤ k ∧ k < C 14 c ∧ g = 6 * c + k) (hgs : C 21 g ≠ 0) (hv : C 19 g = 5 → vL C v (C 20 g)) (wb : C 36 1 < 2147483647) : w_X3_writeStatic (fun r C' => r = C 36 1 ∧ w_X12_write (fun _ R' => RB C' R' ∧ Rjn C' R' ∧ FWc C C' ∧ FWr R R' ∧ C' 36 1 = C 36 1 + 1 ∧ C' 30 = C 30 ∧ (∀ i, C' 32 i = if i = g then v else C 32 i)) (-1) g v R) g v C := by
  have hA := hB.1
  have hH := hB.2.2
  have hY := hA.2.2.2.2
  have h16 := hY.2.2.1
  obtain ⟨c, k, c0, c1, k0, k1, rfl⟩ := hg
  have k6 := (hY.2.2.2.1 c c0 c1).1.2.2.2.2.2.2.2.2.2.1
  have h13 := hH.2.2.2.2.2.2.2.2.2.2.2.2.1
  have h14 := hH.2.2.2.2.2.2.2.2.2.2.2.2.2
  have eb : R 6 (6 * c + k) = C 32 (6 * c + k) := (h13 _ (by omega) (by omega)).symm
  refine p_writeStatic hY hJ (by omega) (by omega) wb fun C1 hs => ⟨rfl, ?_⟩
  refine p_R_writeS hY hJ (by omega) (by omega) (by rw [← hJ.1]; exact wb) fun R1 hr => ?_
  rw [eb] at hr
  have ca : ∀ q, q ≠ 32 → ux_ C 32 (6 * c + k) v q = C q := fun q hk => funext fun i => ux_c _ _ _ _ hk
  have ra : ∀ q, q ≠ 6 → ux_ R 6 (6 * c + k) v q = R q := fun q hk => funext fun i => ux_c _ _ _ _ hk
  have hH2 : Rhp (ux_ C 32 (6 * c + k) v) (ux_ R 6 (6 * c + k) v) := hp_setS hH ⟨c, k, c0, c1, k0, k1, rfl, hv⟩ (fun k hk => ca k (by intro q; rw [q] at hk; revert hk; decide)) (by rw [ca 8 (by decide)]) (fun i _ => by rw [ca 26 (by decide)]) (fun i => by
      by_cases z : i = 6 * c + k
      · rw [if_pos z, z, ux_s]
      · rw [if_neg z, ux_i _ _ _ z]) (fun x x0 x1 => (hY.2.2.2.1 x x0 x1).1.2.2.2.2.2.2.2.2.2.1) (fun k hk => ra k (by intro q; rw [q] at hk; revert hk; decide)) (fun i _ => by rw [ra 0 (by decide)]) (fun i => by
      by_cases z : i = 6 * c + k
      · rw [if_pos z, z, ux_s]
      · rw [if_neg z, ux_i _ _ _ z])
  obtain ⟨g1, g2, g3, g4, g5, g6⟩ := rel_w hB hJ hH2 (fun k _ a => ca k a) (fun k a _ => ra k a) (Or.inl ⟨rfl, rfl, c, k, c0, c1, k0, k1, rfl, fun q => h14 c k c0 c1 k0 k1 hgs q⟩) hs hr (fun w w0 w1 => d_eqS hY hJ.2.2.2 (by omega) w0 w1)
  refine ⟨g1, g2, ⟨g3, g4⟩, ⟨g5, g6⟩, ux_s _ _ _ _, ?_, ?_⟩
  · funext i
    rw [ux_c _ _ _ _ (by decide), hs.1 30 (by decide) (by decide), rmC_o _ _ _ (by omega), ca 30 (by decide)]
  · intro i
    rw [ux_c _ _ _ _ (by decide), hs.1 32 (by decide) (by decide), rmC_o _ _ _ (by omega)]
    by_cases z : i = 6 * c + k
    · rw [if_pos z, z, ux_s]
    · rw [if_neg z, ux_i _ _ _ z]
