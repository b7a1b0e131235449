/-! the heap: what is the same on both sides -/
def hOk (C : MM) (o : Int) : Prop := 0 ≤ o ∧ o < C 26 1 ∧ C 27 o ≠ -1
def ln (C : MM) (o : Int) : Int := so C (C 27 o) (C 28 o)
def vN (kd v : Int) : Prop := (kd = 0 ∧ (v = 0 ∨ v = 1)) ∨ (kd = 1 ∧ -128 ≤ v ∧ v < 128) ∨ (kd = 2 ∧ -32768 ≤ v ∧ v < 32768) ∨ (kd = 3 ∧ -2147483648 ≤ v ∧ v < 2147483648) ∨ kd = 4
def vL (C : MM) (v w : Int) : Prop := v = -1 ∨ (hOk C v ∧ ft C (C 27 v) w)
def vK (C : MM) (kd w v : Int) : Prop := (kd = 5 ∧ vL C v w) ∨ (kd ≠ 5 ∧ vN kd v)
/-- the slots of the things that are there, of the first n -/
def sm (C : MM) : Nat → Int
  | 0 => 0
  | n + 1 => sm C n + (if C 27 n = -1 then 0 else ln C n)
/-- how many of the first n are there -/
def ct (C : MM) : Nat → Int
  | 0 => 0
  | n + 1 => ct C n + (if C 27 n = -1 then 0 else 1)
def Rob (C R : MM) (o : Int) : Prop := R 22 o = (if C 27 o = -1 then 0 else 1) ∧ (C 27 o ≠ -1 → C 27 o = R 19 o ∧ vT (C 8 0) (C 27 o) ∧ (C 27 o < 20 → C 12 (C 27 o) = 1 ∧ C 28 o = 0) ∧ C 28 o = R 20 o ∧ 0 ≤ C 28 o ∧ C 28 o ≤ 60 ∧ C 29 o = sm C o.toNat ∧ 0 ≤ R 21 o ∧ R 21 o + ln C o ≤ R 0 27 ∧ ∀ k, 0 ≤ k → k < ln C o → C 30 (C 29 o + k) = R 23 (R 21 o + k) ∧ C 31 (C 29 o + k) = (if kA C (C 27 o) k = 5 then 1 else 0) ∧ vK C (kA C (C 27 o) k) (lA C (C 27 o) k) (C 30 (C 29 o + k)))
def Rrt (C R : MM) : Prop := C 26 11 = R 0 31 ∧ 0 ≤ C 26 11 ∧ C 26 11 ≤ 12 ∧ (∀ k, 0 ≤ k → k < C 26 11 → C 33 k = R 24 k ∧ hOk C (C 33 k)) ∧ ∀ j k, 0 ≤ j → j < k → k < C 26 11 → C 33 j ≠ C 33 k
def Rsv (C : MM) : Prop := ∀ c k, 0 ≤ c → c < C 8 0 → 0 ≤ k → k < C 14 c → C 21 (6 * c + k) ≠ 0 → C 19 (6 * c + k) = 5 → vL C (C 32 (6 * c + k)) (C 20 (6 * c + k))
def Rhp (C R : MM) : Prop := C 26 1 = R 0 26 ∧ 0 ≤ C 26 1 ∧ C 26 1 ≤ 400 ∧ C 26 2 = ct C (C 26 1).toNat ∧ C 26 3 = R 0 28 ∧ C 26 3 = sm C (C 26 1).toNat ∧ C 26 3 ≤ 4000 ∧ 0 ≤ R 0 27 ∧ R 0 27 ≤ 96 * C 26 1 ∧ (∀ o, 0 ≤ o → o < C 26 1 → Rob C R o) ∧ (∀ o o', 0 ≤ o → o < o' → o' < C 26 1 → C 27 o ≠ -1 → C 27 o' ≠ -1 → R 21 o + ln C o ≤ R 21 o') ∧ Rrt C R ∧ Rst C R ∧ Rsv C
/-- the classes, the tape and the heap -/
def RB (C R : MM) : Prop := RA C R ∧ Rlk C ∧ Rhp C R
theorem slC_f {C R : MM} (hY : Rty C R) {c s : Int} (c0 : 0 ≤ c) (c1 : c < C 8 0) (s0 : 0 ≤ s) (s1 : s < C 16 c) : ∃ x k, 0 ≤ x ∧ x < C 8 0 ∧ 0 ≤ k ∧ k < C 14 x ∧ C 24 (96 * c + s) = C 19 (6 * x + k) ∧ C 25 (96 * c + s) = C 20 (6 * x + k) := by
  obtain ⟨m, x, k, q1, q2, q3, q4, q5, q6, q7, q8, q9⟩ := (hY.2.2.2.1 c c0 c1).2.2.1 s s0 s1
  have := (upn_in (pOk_of hY) (c := c) (by omega) c1 m).2
  rw [q1] at this
  exact ⟨x, k, q2, this, q3, q4, q8, q9⟩
theorem kA_bd {C R : MM} (hY : Rty C R) {t s : Int} (ht : vT (C 8 0) t) (s0 : 0 ≤ s) (s1 : t < 20 → s < C 16 t) : 0 ≤ kA C t s ∧ kA C t s ≤ 5 := by
  have h16 := hY.2.2.1
  unfold vT at ht
  unfold kA
  by_cases z : 29 ≤ t
  · rw [if_pos z]; omega
  · rw [if_neg z]
    by_cases z2 : 20 ≤ t
    · rw [if_pos z2]; omega
    · rw [if_neg z2]
      obtain ⟨x, k, x0, x1, k0, k1, e, -⟩ := slC_f hY (c := t) (by omega) (by omega) s0 (s1 (by omega))
      have := (hY.2.2.2.1 x x0 x1).2.2.2 k k0 k1
      rw [e]; exact ⟨this.2.2.1, this.2.2.2.1⟩
theorem lA_ok {C R : MM} (hY : Rty C R) (hL : Rlk C) {t s : Int} (ht : vT (C 8 0) t) (s0 : 0 ≤ s) (s1 : t < 20 → s < C 16 t) (hk : kA C t s = 5) : lA C t s = -1 ∨ vT (C 8 0) (lA C t s) := by
  have h16 := hY.2.2.1
  have ht' := ht
  unfold vT at ht
  unfold kA at hk
  unfold lA
  by_cases z : 30 ≤ t
  · rw [if_pos z]; exact Or.inr (Or.inl (by omega))
  · rw [if_neg z]
    by_cases z2 : 20 ≤ t
    · rw [if_pos z2]; exact Or.inl rfl
    · rw [if_neg z2]
      obtain ⟨x, k, x0, x1, k0, k1, e, e2⟩ := slC_f hY (c := t) (by omega) (by omega) s0 (s1 (by omega))
      rw [if_neg (by omega), if_neg z2, e] at hk
      rw [e2]
      rcases hL x k x0 x1 k0 k1 with q | q
      · exact q.2
      · exact absurd hk q.1
theorem ri_lA {C : MM} {t s : Int} (h : lA C t s = -1 ∨ vT (C 8 0) (lA C t s)) (h16 : C 8 0 ≤ 16) : ri_ (lA C t s) := by unfold vT at h; unfold ri_; omega
theorem ln_bd {C R : MM} (hY : Rty C R) {o : Int} (ht : vT (C 8 0) (C 27 o)) (n0 : 0 ≤ C 28 o) (n1 : C 28 o ≤ 60) : 0 ≤ ln C o ∧ ln C o ≤ 96 := by
  have h16 := hY.2.2.1
  unfold vT at ht
  unfold ln so
  by_cases z : 20 ≤ C 27 o
  · rw [if_pos z]; omega
  · rw [if_neg z]
    have := ty_bd hY (C 27 o) (by omega) (by omega)
    omega
theorem sm_mono {C : MM} {n : Nat} (h : ∀ o : Int, 0 ≤ o → o < n → C 27 o ≠ -1 → 0 ≤ ln C o) (i j : Nat) (hi : i ≤ j) (hj : j ≤ n) : sm C i ≤ sm C j := by
  induction j with
  | zero => rw [show i = 0 from by omega]; omega
  | succ j ih =>
    by_cases e : i = j + 1
    · rw [e]; omega
    · have := ih (by omega) (by omega)
      have h2 := h j (by omega) (by omega)
      show _ ≤ sm C j + (if C 27 j = -1 then 0 else ln C j)
      by_cases z : C 27 j = -1
      · rw [if_pos z]; omega
      · rw [if_neg z]; have := h2 z; omega
/-- where a thing's slots lie -/
theorem hp_at {C R R0 : MM} (hY : Rty C R0) (h : Rhp C R) {o : Int} (ho : hOk C o) : 0 ≤ ln C o ∧ ln C o ≤ 96 ∧ 0 ≤ C 29 o ∧ C 29 o + ln C o ≤ C 26 3 ∧ C 26 3 ≤ 4000 ∧ 0 ≤ R 21 o ∧ R 21 o + ln C o ≤ 38400 ∧ o < 400 := by
  obtain ⟨h1, h2, h3, h4, h5, h6, h7, h8, h9, h10, h11, -⟩ := h
  obtain ⟨o0, o1, o2⟩ := ho
  obtain ⟨-, r⟩ := h10 o o0 o1
  obtain ⟨r1, r2, r3, r4, r5, r6, r7, r8, r9, r10⟩ := r o2
  have hl := ln_bd hY r2 r5 r6
  have hnn : ∀ o : Int, 0 ≤ o → o < ((C 26 1).toNat : Nat) → C 27 o ≠ -1 → 0 ≤ ln C o := fun o a b c => by
    obtain ⟨-, r⟩ := h10 o a (by omega)
    obtain ⟨r1, r2, r3, r4, r5, r6, -⟩ := r c
    exact (ln_bd hY r2 r5 r6).1
  have m1 := sm_mono hnn 0 o.toNat (by omega) (by omega)
  have m2 := sm_mono hnn (o.toNat + 1) (C 26 1).toNat (by omega) (by omega)
  have e : sm C (o.toNat + 1) = sm C o.toNat + ln C o := by
    show sm C o.toNat + (if C 27 ((o.toNat : Nat) : Int) = -1 then 0 else ln C ((o.toNat : Nat) : Int)) = _
    rw [show ((o.toNat : Nat) : Int) = o from by omega, if_neg o2]
  have m0 : sm C 0 = 0 := rfl
  refine ⟨hl.1, hl.2, by omega, by omega, by omega, r8, by omega, by omega⟩
theorem p_isThere {Q : Int → MM → Prop} {o : Int} {M : MM} (h4 : M 26 1 ≤ 400) (h1 : hOk M o → Q 1 M) (h0 : ¬ hOk M o → Q 0 M) : w_X2_isThere Q o M := by
  unfold w_X2_isThere
  refine ⟨fun z => h0 (fun q => by have := q.1; omega), fun z v e g => ?_⟩
  subst e
  refine ⟨fun z2 => h0 (fun q => by have := q.2.1; omega), fun z2 => ⟨by omega, by omega, fun v4 e4 g4 => ?_⟩⟩
  subst e4
  exact ⟨fun z4 => h0 (fun q => q.2.2 z4), fun z4 => h1 ⟨by omega, by omega, z4⟩⟩
theorem p_R_isObject {Q : Int → MM → Prop} {o : Int} {C R : MM} (h : Rhp C R) (h1 : hOk C o → Q 1 R) (h0 : ¬ hOk C o → Q 0 R) : w_X12_isObject Q o R := by
  have e1 := h.1
  have e2 := h.2.2.1
  unfold w_X12_isObject
  refine ⟨fun z => h0 (fun q => by have := q.1; omega), fun z v e g => ?_⟩
  rw [← e1] at e
  subst e
  refine ⟨fun z2 => h0 (fun q => by have := q.2.1; omega), fun z2 => ⟨by omega, by omega, fun v4 e4 g4 => ?_⟩⟩
  have hr := (h.2.2.2.2.2.2.2.2.2.1 o (by omega) (by omega)).1
  rw [hr] at e4
  by_cases zz : C 27 o = -1
  · rw [if_pos zz] at e4
    exact ⟨fun _ => h0 (fun q => q.2.2 zz), fun q => absurd e4 q⟩
  · rw [if_neg zz] at e4
    exact ⟨fun q => by omega, fun _ => h1 ⟨by omega, by omega, zz⟩⟩
/-- the heap's relation looks at these cells alone -/
theorem so_eq {C C' : MM} (h : C' 16 = C 16) (t n : Int) : so C' t n = so C t n := by unfold so; rw [h]
theorem kA_eq {C C' : MM} (h : C' 24 = C 24) (t n : Int) : kA C' t n = kA C t n := by unfold kA; rw [h]
theorem lA_eq {C C' : MM} (h : C' 25 = C 25) (t n : Int) : lA C' t n = lA C t n := by unfold lA; rw [h]
theorem heir_eq {C C' : MM} (h : C' 11 = C 11) (t o : Int) : heir C' t o ↔ heir C t o := by
  unfold heir
  constructor
  · rintro ⟨m, hm⟩; exact ⟨m, by rw [← upn_eq h]; exact hm⟩
  · rintro ⟨m, hm⟩; exact ⟨m, by rw [upn_eq h]; exact hm⟩
theorem ft_eq {C C' : MM} (h : C' 11 = C 11) (t o : Int) : ft C' t o ↔ ft C t o := by
  unfold ft
  rw [heir_eq h, heir_eq h]
theorem Rhp_R {C R R' : MM} (h : Rhp C R) (r : ∀ k, k ∈ [6, 19, 20, 21, 22, 23, 24] → R' k = R k) (r0 : ∀ i, i ∈ ([26, 27, 28, 31] : List Int) → R' 0 i = R 0 i) : Rhp C R' := by
  unfold Rhp Rob Rrt Rst at h ⊢
  simp only [r 6 (by decide), r 19 (by decide), r 20 (by decide), r 21 (by decide), r 22 (by decide), r 23 (by decide), r 24 (by decide), r0 26 (by decide), r0 27 (by decide), r0 28 (by decide), r0 31 (by decide)]
  exact h
theorem RA_R {C R R' : MM} (h : RA C R) (r : ∀ k, 1 ≤ k → k ≤ 18 → k ≠ 6 → R' k = R k) (r0 : ∀ i, i ∈ ([3, 20] : List Int) → R' 0 i = R 0 i) : RA C R' := by
  obtain ⟨h1, h2, h3, h4, h5⟩ := h
  refine ⟨?_, ?_, ?_, ?_, Rty_R h5 (fun k a b c => r k (by omega) b c) (r0 20 (by decide))⟩
  · unfold Rtape at h1 ⊢; rw [r0 3 (by decide), r 1 (by omega) (by omega) (by omega), r 2 (by omega) (by omega) (by omega)]; exact h1
  · rw [r 1 (by omega) (by omega) (by omega)]; exact h2
  · rw [r 2 (by omega) (by omega) (by omega)]; exact h3
  · unfold Rkey at h4 ⊢; rw [r 3 (by omega) (by omega) (by omega)]; exact h4
theorem RB_00 {C R : MM} (h : RB C R) (x : Int) : RB C (ux_ R 0 0 x) := by
  obtain ⟨h1, h2, h3⟩ := h
  have a : ∀ k, k ≠ 0 → ux_ R 0 0 x k = R k := fun k hk => funext fun i => ux_c _ _ _ _ hk
  have b : ∀ i, i ≠ 0 → ux_ R 0 0 x 0 i = R 0 i := fun i hi => ux_i _ _ _ hi
  exact ⟨RA_R h1 (fun k k0 _ _ => a k (by omega)) (fun i hi => b i (by intro q; rw [q] at hi; revert hi; decide)), h2, Rhp_R h3 (fun k hk => a k (by intro q; rw [q] at hk; revert hk; decide)) (fun i hi => b i (by intro q; rw [q] at hi; revert hi; decide))⟩
theorem R00_sub {P : MM → Prop} {R : MM} {x : Int} (h : P (ux_ R 0 0 x)) : ∀ M1, M1 = ux_ R 0 0 x → P M1 := fun _ e => by rw [e]; exact h
theorem t_object {C R : MM} {o w : Int} (h : RB C R) : w_X11_object (fun r C' => C' = C ∧ w_X12_object (fun r' R' => r = r' ∧ R' = ux_ R 0 0 0) o w R) o w C := by
  obtain ⟨hA, hL, hH⟩ := h
  have hB := RB_00 ⟨hA, hL, hH⟩ 0
  obtain ⟨hA', hL', hH'⟩ := hB
  have hY := hA.2.2.2.2
  have hY' := hA'.2.2.2.2
  have o4 := hH.2.2.1
  unfold w_X11_object
  refine p_isThere o4 (fun ho _ => ⟨fun _ => ?_, fun q => by omega⟩) (fun ho _ => ⟨fun q => absurd rfl q, fun _ => ⟨rfl, ?_⟩⟩)
  · have hr := (hH.2.2.2.2.2.2.2.2.2.1 o ho.1 ho.2.1).2 ho.2.2
    obtain ⟨r1, r2, r3, r4, r5, r6, -⟩ := hr
    have o5 := ho.1
    have o6 := ho.2.1
    have q19 : ux_ R 0 0 0 19 o = C 27 o := by rw [ux_c _ _ _ _ (by decide)]; exact r1.symm
    have q20 : ux_ R 0 0 0 20 o = C 28 o := by rw [ux_c _ _ _ _ (by decide)]; exact r4.symm
    have key : ∀ r, (w = 0 → r = C 27 o) → (w = 1 → r = C 28 o) → (w = 2 → r = sz C (C 27 o) (C 28 o)) → (w ≠ 0 → w ≠ 1 → w ≠ 2 → r = -1) → C = C ∧ w_X12_object (fun r' R' => r = r' ∧ R' = ux_ R 0 0 0) o w R := by
      intro r k0 k1 k2 k3
      refine ⟨rfl, ?_⟩
      unfold w_X12_object
      intro M1 e1
      subst e1
      refine p_R_isObject hH' (fun _ _ => ⟨fun _ => ⟨fun z0 => ⟨fun z1 => ⟨fun z2 => ⟨k3 z0 z1 z2, rfl⟩, fun z2 => ⟨o5, by omega, fun v8 e8 g8 => ⟨o5, by omega, fun v9 e9 g9 => ?_⟩⟩⟩, fun z1 => ⟨o5, by omega, fun v e g => ⟨by rw [e, q20]; exact k1 z1, rfl⟩⟩⟩, fun z0 => ⟨o5, by omega, fun v e g => ⟨by rw [e, q19]; exact k0 z0, rfl⟩⟩⟩, fun q => by omega⟩) (fun q => absurd ho q)
      rw [e8, e9, q19, q20]
      exact p_R_size hY' r2 r5 r6 fun _ => ⟨k2 z2, rfl⟩
    refine ⟨fun z => ⟨o5, by omega, fun v e g => key v (fun _ => e) (fun q => by omega) (fun q => by omega) (fun q => absurd z q)⟩, fun z => ⟨o5, by omega, fun v e g => key v (fun q => by omega) (fun _ => e) (fun q => by omega) (fun _ q => absurd z q)⟩, fun z => ⟨o5, by omega, fun v e g => ⟨o5, by omega, fun v2 e2 g2 => ?_⟩⟩, fun z => key (-1) (fun q => absurd q z.1) (fun q => absurd q z.2.1) (fun q => absurd q z.2.2) (fun _ _ _ => rfl)⟩
    rw [e, e2]
    exact p_sizeOf hY r2 r5 r6 fun _ => key _ (fun q => by omega) (fun q => by omega) (fun _ => rfl) (fun _ _ q => absurd z q)
  · unfold w_X12_object
    intro M1 e1
    subst e1
    exact p_R_isObject hH' (fun q => absurd q ho) (fun _ _ => ⟨fun q => absurd rfl q, fun _ => ⟨rfl, rfl⟩⟩)
theorem p_hasSlot {Q : Int → MM → Prop} {o s : Int} {C R : MM} (hY : Rty C R) (h : Rhp C R) (h1 : hOk C o → 0 ≤ s → s < ln C o → Q 1 C) (h0 : ¬ (hOk C o ∧ 0 ≤ s ∧ s < ln C o) → Q 0 C) : w_X2_hasSlot Q o s C := by
  have o4 := h.2.2.1
  unfold w_X2_hasSlot w_X2_slotsOf
  refine p_isThere o4 (fun ho _ => ⟨fun q => by omega, fun _ => ⟨fun z => h0 (fun q => by have := q.2.1; omega), fun z => ?_⟩⟩) (fun ho _ => ⟨fun _ => h0 (fun q => ho q.1), fun q => absurd rfl q⟩)
  have hr := (h.2.2.2.2.2.2.2.2.2.1 o ho.1 ho.2.1).2 ho.2.2
  have o5 := ho.1
  have o6 := ho.2.1
  refine ⟨o5, by omega, fun v e g => ⟨o5, by omega, fun v2 e2 g2 => ?_⟩⟩
  rw [e, e2]
  exact p_so hY.2.2.1 hr.2.1 fun _ _ => ⟨fun z2 => h0 (fun q => by have := q.2.2; unfold ln at this; omega), fun z2 => h1 ho (by omega) (by unfold ln; omega)⟩
theorem t_get {C R : MM} {o s : Int} (h : RB C R) : w_X11_get (fun r C' => C' = C ∧ w_X12_get (fun r' R' => r = r' ∧ R' = ux_ R 0 0 0) o s R) (fun E C' => C' = C ∧ w_X12_get (fun r' R' => R' = ux_ R 0 0 1) o s R) o s C := by
  obtain ⟨hA, hL, hH⟩ := h
  have hY := hA.2.2.2.2
  unfold w_X11_get
  refine p_hasSlot hY hH (fun ho s0 s1 _ => ⟨fun _ => ?_, fun q => by omega⟩) (fun ho _ => ⟨fun q => absurd rfl q, fun _ => ⟨rfl, ?_⟩⟩)
  · have hr := (hH.2.2.2.2.2.2.2.2.2.1 o ho.1 ho.2.1).2 ho.2.2
    obtain ⟨r1, r2, r3, r4, r5, r6, r7, r8, r9, r10⟩ := hr
    have hat := hp_at hY hH ho
    have o5 := ho.1
    refine ⟨o5, by omega, fun v4 e4 g4 => ?_⟩
    subst e4
    refine ⟨by unfold ri_; omega, by omega, by omega, fun v6 e6 g6 => ⟨rfl, ?_⟩⟩
    unfold w_X12_get
    refine p_R_isObject hH (fun _ _ => ⟨fun q => by omega, fun _ => ⟨fun z => by omega, fun _ => ⟨o5, by omega, fun v e g => ⟨o5, by omega, fun v2 e2 g2 => ?_⟩⟩⟩⟩) (fun q => absurd ho q)
    rw [← r1] at e
    rw [← r4] at e2
    rw [e, e2]
    refine p_R_so hY r2 fun _ => ⟨fun z => ?_, fun z => absurd s1 z⟩
    unfold w_X12_get_b38
    intro M1 e1 w2 f2 g3
    have : w2 = 0 := by rw [f2, e1, ux_s]
    refine ⟨fun _ => ⟨o5, by omega, fun v4 e4 g4' => ?_⟩, fun q => by omega⟩
    rw [e1, ux_c _ _ _ _ (by decide)] at e4
    subst e4
    refine ⟨by unfold ri_; omega, by omega, by omega, fun v7 e7 g7 => ⟨?_, e1⟩⟩
    rw [e7, e1, ux_c _ _ _ _ (by decide), e6]
    exact (r10 s s0 s1).1
  · have hb : w_X12_get_b33 (fun r' R' => R' = ux_ R 0 0 1) o s R := by
      unfold w_X12_get_b33 w_X12_get_b38
      intro M1 e1 w2 f2 g3
      have : w2 = 1 := by rw [f2, e1, ux_s]
      exact ⟨fun q => by omega, fun _ => e1⟩
    unfold w_X12_get
    refine p_R_isObject hH (fun hk _ => ⟨fun q => by omega, fun _ => ⟨fun z => hb, fun z => ⟨hk.1, by have := hk.2.1; have := hH.2.2.1; omega, fun v e g => ⟨hk.1, by have := hk.2.1; have := hH.2.2.1; omega, fun v2 e2 g2 => ?_⟩⟩⟩⟩) (fun _ _ => ⟨fun _ => hb, fun q => absurd rfl q⟩)
    have hr := (hH.2.2.2.2.2.2.2.2.2.1 o hk.1 hk.2.1).2 hk.2.2
    rw [← hr.1] at e
    rw [← hr.2.2.2.1] at e2
    rw [e, e2]
    exact p_R_so hY hr.2.1 fun _ => ⟨fun z2 => absurd ⟨hk, by omega, z2⟩ ho, fun _ => hb⟩
