/-! watch, on both sides -/
def xW (E : String) : Int := if E = "java/util/NoSuchElementException" then 1 else if E = "java/lang/IllegalArgumentException" then 2 else 3
set_option maxHeartbeats 400000 in
theorem t_watch {C R : MM} {c k y : Int} (hB : RB C R) (hJ : Rjn C R) : w_X11_watch (fun r C' => w_X12_watch (fun r' R' => r = r' ∧ R' 0 0 = 0 ∧ RB C' R' ∧ Rjn C' R' ∧ (∀ q, q ∉ [36, 40, 41, 42] → C' q = C q) ∧ (∀ i, i ≠ 7 → C' 36 i = C 36 i) ∧ (∀ q, q ∉ [0, 29, 30, 31] → R' q = R q) ∧ (∀ i, i ∉ ([0, 44] : List Int) → R' 0 i = R 0 i)) c k y R) (fun E C' => C' = C ∧ w_X12_watch (fun r' R' => R' = ux_ R 0 0 (xW E)) c k y R) c k y C := by
  have hH := hB.2.2
  have hY := hB.1.2.2.2.2
  have h16 := hY.2.2.1
  have h20 := hY.1
  have b54 : ∀ (Q : Int → MM → Prop) x, 0 < x → Q 0 (ux_ R 0 0 x) → w_X12_watch_b54 Q c k y x R := by
    intro Q x hx hq
    unfold w_X12_watch_b54
    intro M1 e1 v2 e2 _
    have : v2 = x := by rw [e2, e1, ux_s]
    exact ⟨fun q => by omega, fun _ => by rw [e1]; exact hq⟩
  have go : ∀ Q : Int → MM → Prop, 0 ≤ c → c < C 8 0 → 0 ≤ k → k < C 14 c → ((y < 0 → w_X12_watch_b36 Q c k y R) ∧ (¬ y < 0 → (y ≤ 3 → (¬ C 36 7 = 6 → w_X12_watch_b54 Q c k y 0 R) ∧ (C 36 7 = 6 → w_X12_watch_b54 Q c k y 3 R)) ∧ (¬ y ≤ 3 → w_X12_watch_b36 Q c k y R))) → w_X12_watch Q c k y R := by
    intro Q c0 c1 k0 k1 hq
    have e9 := (hY.2.2.2.1 c c0 c1).1.2.2.2.2.2.2.2.1
    unfold w_X12_watch
    refine p_R_isClass (fun _ _ _ => ⟨fun q => by omega, fun _ => ⟨fun q => by omega, fun _ => ⟨c0, by omega, fun v5 e5 _ => ?_⟩⟩⟩) (fun q => by omega)
    rw [← e9] at e5
    subst e5
    refine ⟨fun _ => ⟨hq.1, fun z => ⟨fun z2 v9 e9 _ => ?_, (hq.2 z).2⟩⟩, fun q => absurd k1 q⟩
    rw [← hJ.2.2.2.1] at e9
    subst e9
    exact (hq.2 z).1 z2
  unfold w_X11_watch
  refine p_hasField_ h16 (fun c0 c1 k0 k1 _ => ⟨fun _ => ?_, fun q => by omega⟩) (fun hn _ => ⟨fun q => absurd rfl q, fun _ => ⟨rfl, ?_⟩⟩)
  · unfold w_X11_watch_b29
    refine ⟨fun z => ⟨rfl, go _ c0 c1 k0 k1 ⟨fun _ => b54 _ 2 (by omega) rfl, fun q => absurd z q⟩⟩, fun z => ⟨fun z2 v6 e6 _ => ?_, fun z2 => ⟨rfl, go _ c0 c1 k0 k1 ⟨fun q => absurd q z, fun _ => ⟨fun q => absurd q z2, fun _ => b54 _ 2 (by omega) rfl⟩⟩⟩⟩⟩
    subst e6
    refine ⟨fun z3 => ?_, fun z3 => ⟨rfl, go _ c0 c1 k0 k1 ⟨fun q => absurd q z, fun _ => ⟨fun _ => ⟨fun q => absurd z3 q, fun _ => b54 _ 3 (by omega) rfl⟩, fun q => absurd z2 q⟩⟩⟩⟩
    obtain ⟨j1, j2, j3, j4⟩ := hJ
    obtain ⟨h1, h2, h3, h4, h5⟩ := j4
    unfold w_X3_addWatch
    intro v1 e1 _
    subst e1
    refine ⟨h2, by omega, fun M2 e2 v3 e3 _ => ?_⟩
    have r3 : v3 = C 36 7 := by rw [e3, e2, ux_c _ _ _ _ (by decide)]
    subst r3
    refine ⟨h2, by omega, fun M4 e4 v5 e5 _ => ?_⟩
    have r5 : v5 = C 36 7 := by rw [e5, e4, e2, ux_c _ _ _ _ (by decide), ux_c _ _ _ _ (by decide)]
    subst r5
    refine ⟨h2, by omega, fun M6 e6 v7 e7 _ => ?_⟩
    have r7 : v7 = C 36 7 := by rw [e7, e6, e4, e2, ux_c _ _ _ _ (by decide), ux_c _ _ _ _ (by decide), ux_c _ _ _ _ (by decide)]
    subst r7
    refine ⟨by unfold ri_; omega, fun M9 e9 v10 e10 _ => ?_⟩
    have r10 : v10 = C 36 7 + 1 := by rw [e10, e9, ux_s]
    rw [r10]
    refine ⟨by unfold ri_; omega, fun _ => go _ c0 c1 k0 k1 ⟨fun q => absurd q z, fun _ => ⟨fun _ => ⟨fun _ => ?_, fun q => absurd q z3⟩, fun q => absurd z2 q⟩⟩⟩
    have cc : ∀ q, q ∉ [36, 40, 41, 42] → M9 q = C q := by
      intro q hq
      simp at hq
      funext i
      rw [e9, e6, e4, e2, ux_c _ _ _ _ (by omega), ux_c _ _ _ _ (by omega), ux_c _ _ _ _ (by omega), ux_c _ _ _ _ (by omega)]
    have c36 : ∀ i, i ≠ 7 → M9 36 i = C 36 i := by
      intro i hi
      rw [e9, e6, e4, e2, ux_i _ _ _ hi, ux_c _ _ _ _ (by decide), ux_c _ _ _ _ (by decide), ux_c _ _ _ _ (by decide)]
    have c7 : M9 36 7 = C 36 7 + 1 := by rw [e9, ux_s]
    have c40 : ∀ i, M9 40 i = if i = C 36 7 then c else C 40 i := by
      intro i
      rw [e9, e6, e4, e2, ux_c _ _ _ _ (by decide), ux_c _ _ _ _ (by decide), ux_c _ _ _ _ (by decide)]
      by_cases w : i = C 36 7
      · rw [if_pos w, w, ux_s]
      · rw [if_neg w, ux_i _ _ _ w]
    have c41 : ∀ i, M9 41 i = if i = C 36 7 then k else C 41 i := by
      intro i
      rw [e9, e6, e4, e2, ux_c _ _ _ _ (by decide), ux_c _ _ _ _ (by decide)]
      by_cases w : i = C 36 7
      · rw [if_pos w, w, ux_s]
      · rw [if_neg w, ux_i _ _ _ w, ux_c _ _ _ _ (by decide)]
    have c42 : ∀ i, M9 42 i = if i = C 36 7 then y else C 42 i := by
      intro i
      rw [e9, e6, e4, e2, ux_c _ _ _ _ (by decide)]
      by_cases w : i = C 36 7
      · rw [if_pos w, w, ux_s]
      · rw [if_neg w, ux_i _ _ _ w, ux_c _ _ _ _ (by decide), ux_c _ _ _ _ (by decide)]
    unfold w_X12_watch_b54
    intro A1 f1 u2 f2 _
    have : u2 = 0 := by rw [f2, f1, ux_s]
    refine ⟨fun _ u4 f4 _ => ?_, fun q => by omega⟩
    have a4 : u4 = C 36 7 := by rw [f4, f1, ux_i _ _ _ (by decide)]; exact h1.symm
    subst a4
    refine ⟨by unfold ri_; omega, by unfold ri_; have := (hY.2.2.2.1 c c0 c1).1.2.2.2.2.2.2.2.2.2.1; omega, h2, by omega, fun A7 f7 u8 f8 _ => ?_⟩
    have a8 : u8 = C 36 7 := by rw [f8, f7, f1, ux_c _ _ _ _ (by decide), ux_i _ _ _ (by decide)]; exact h1.symm
    subst a8
    refine ⟨h2, by omega, fun A9 f9 u10 f10 _ => ?_⟩
    have a10 : u10 = C 36 7 := by rw [f10, f9, f7, f1, ux_c _ _ _ _ (by decide), ux_c _ _ _ _ (by decide), ux_i _ _ _ (by decide)]; exact h1.symm
    subst a10
    refine ⟨h2, by omega, fun A11 f11 u12 f12 _ => ?_⟩
    have a12 : u12 = C 36 7 := by rw [f12, f11, f9, f7, f1, ux_c _ _ _ _ (by decide), ux_c _ _ _ _ (by decide), ux_c _ _ _ _ (by decide), ux_i _ _ _ (by decide)]; exact h1.symm
    subst a12
    refine ⟨by unfold ri_; omega, fun A14 f14 u15 f15 _ => ?_⟩
    have a15 : u15 = C 36 7 + 1 := by rw [f15, f14, ux_s]
    rw [a15]
    have rr : ∀ q, q ∉ [0, 29, 30, 31] → A14 q = R q := by
      intro q hq
      simp at hq
      funext i
      rw [f14, f11, f9, f7, f1, ux_c _ _ _ _ (by omega), ux_c _ _ _ _ (by omega), ux_c _ _ _ _ (by omega), ux_c _ _ _ _ (by omega), ux_c _ _ _ _ (by omega)]
    have r0 : ∀ i, i ≠ 44 → A14 0 i = ux_ R 0 0 0 0 i := by
      intro i hi
      rw [f14, f11, f9, f7, f1, ux_i _ _ _ hi, ux_c _ _ _ _ (by decide), ux_c _ _ _ _ (by decide), ux_c _ _ _ _ (by decide)]
    have r44 : A14 0 44 = C 36 7 + 1 := by rw [f14, ux_s]
    have r29 : ∀ i, A14 29 i = if i = C 36 7 then 6 * c + k else R 29 i := by
      intro i
      rw [f14, f11, f9, f7, f1, ux_c _ _ _ _ (by decide), ux_c _ _ _ _ (by decide), ux_c _ _ _ _ (by decide)]
      by_cases w : i = C 36 7
      · rw [if_pos w, w, ux_s]
      · rw [if_neg w, ux_i _ _ _ w, ux_c _ _ _ _ (by decide)]
    have r30 : ∀ i, A14 30 i = if i = C 36 7 then y else R 30 i := by
      intro i
      rw [f14, f11, f9, f7, f1, ux_c _ _ _ _ (by decide), ux_c _ _ _ _ (by decide)]
      by_cases w : i = C 36 7
      · rw [if_pos w, w, ux_s]
      · rw [if_neg w, ux_i _ _ _ w, ux_c _ _ _ _ (by decide), ux_c _ _ _ _ (by decide)]
    have r31 : ∀ i, A14 31 i = if i = C 36 7 then 0 else R 31 i := by
      intro i
      rw [f14, f11, f9, f7, f1, ux_c _ _ _ _ (by decide)]
      by_cases w : i = C 36 7
      · rw [if_pos w, w, ux_s]
      · rw [if_neg w, ux_i _ _ _ w, ux_c _ _ _ _ (by decide), ux_c _ _ _ _ (by decide), ux_c _ _ _ _ (by decide)]
    have r0' : ∀ i, i ∉ ([0, 44] : List Int) → A14 0 i = R 0 i := by
      intro i hi
      simp at hi
      rw [r0 i (by omega), ux_i _ _ _ (by omega)]
    have hrt : Rrt M9 A14 := by
      have q := hH.2.2.2.2.2.2.2.2.2.2.2.1
      unfold Rrt at q ⊢
      rw [cc 26 (by decide), cc 33 (by decide), rr 24 (by decide), r0' 31 (by decide), hOk_eq (by rw [cc 26 (by decide)]) (cc 27 (by decide))]
      exact q
    have hH2 : Rhp M9 A14 := Rhp_C hH (fun q hk => cc q (by intro x; simp at x; rcases x with rfl | rfl | rfl | rfl <;> simp at hk)) (by rw [cc 8 (by decide)]) (fun i _ => by rw [cc 26 (by decide)]) (fun q hk => rr q (by intro x; simp at x; rcases x with rfl | rfl | rfl | rfl <;> simp at hk)) (fun i hi => r0' i (by revert hi; simp; omega)) hrt
    refine ⟨by unfold ri_; omega, ⟨rfl, ?_, RB_of hB hH2 (fun q a b => cc q (by simp; omega)) (fun q a b _ => rr q (by simp; omega)) (fun i hi => r0' i (by revert hi; simp; omega)), ⟨?_, ?_, ?_, ?_⟩, cc, c36, rr, r0'⟩⟩
    · rw [r0 0 (by decide), ux_s]
    · rw [c36 1 (by decide), r0' 29 (by decide)]; exact j1
    · rw [c36 1 (by decide)]; exact j2
    · exact Rud_e j3 (fun a b d e q => by rw [uE_c (C := C) (C' := M9) (fun q hk => cc q (by intro x; simp at x; rcases x with rfl | rfl | rfl | rfl <;> simp at hk)) (by rw [cc 26 (by decide)])]; exact q) (c36 5 (by decide)) (c36 6 (by decide)) (fun q hk => cc q (by intro x; simp at x; rcases x with rfl | rfl | rfl | rfl <;> simp at hk)) (r0' 36 (by decide)) (fun q hk => rr q (by intro x; simp at x; rcases x with rfl | rfl | rfl | rfl <;> simp at hk))
    · unfold Rwt Rrow
      rw [c7, r44, cc 8 (by decide), cc 14 (by decide), cc 43 (by decide), cc 44 (by decide)]
      refine ⟨rfl, by omega, by omega, fun w w0 w1 => ?_, fun w w0 w1 => h5 w (by omega) w1⟩
      have rq' : ∀ q : Nat, A14 (32 + q) = R (32 + q) := fun q => rr _ (by simp; omega)
      rw [c40, c41, c42, r29, r30, r31]
      by_cases zw : w = C 36 7
      · rw [if_pos zw, if_pos zw, if_pos zw, if_pos zw, if_pos zw, if_pos zw]
        have := h5 w (by omega) (by omega)
        refine ⟨c0, c1, k0, k1, rfl, rfl, by omega, z2, this, by omega, by omega, fun j q j0 j1 => by omega⟩
      · rw [if_neg zw, if_neg zw, if_neg zw, if_neg zw, if_neg zw, if_neg zw]
        obtain ⟨a1, a2, a3, a4, a5, a6, a7, a8, a9, a10, a11, a12⟩ := h4 w w0 (by omega)
        exact ⟨a1, a2, a3, a4, a5, a6, a7, a8, a9, a10, a11, fun j q j0 j1 q4 => by rw [rq']; exact a12 j q j0 j1 q4⟩
  · unfold w_X12_watch
    have b1 : w_X12_watch_b23 (fun r' R' => R' = ux_ R 0 0 (xW "java/util/NoSuchElementException")) c k y R := b54 _ 1 (by omega) rfl
    refine p_R_isClass (fun c0 c1 _ => ⟨fun q => by omega, fun _ => ⟨fun _ => b1, fun z => ⟨c0, by omega, fun v5 e5 _ => ?_⟩⟩⟩) (fun _ _ => ⟨fun _ => b1, fun q => absurd rfl q⟩)
    rw [← h20] at c1
    have e9 := (hY.2.2.2.1 c c0 c1).1.2.2.2.2.2.2.2.1
    rw [← e9] at e5
    subst e5
    exact ⟨fun q => absurd ⟨c0, c1, by omega, q⟩ hn, fun _ => b1⟩
