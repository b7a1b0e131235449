/-! rules worked out by the reference: the state, a fact, a part of a body -/
def FJ (R R' : MM) : Prop := (∀ k, k ≠ 0 → k < 93 ∨ 96 < k → R' k = R k) ∧ ∀ i, i ≠ 138 → R' 0 i = R 0 i
def FRk (A : MM) (n : Int) (R : MM) : KK := fun k a b => 0 ≤ a ∧ a < n ∧ 0 ≤ b ∧ b < n ∧ ((0 ≤ k ∧ k < A 261 16 ∧ (A 273 k = 1 ∧ a = b ∧ R 94 (40 * k + a) = 1 ∨ A 273 k = 2 ∧ R 95 (1600 * k + 40 * a + b) = 1)) ∨ k = 6 ∧ R 61 (400 * a + b) = 1 ∨ k = 7 ∧ a = b ∨ k = 8 ∧ a ≠ b)
def JS (D : MM) (c : Nat) (A : MM) (p : Int) (R : MM) : Prop := Rty D R ∧ Rpb D R c p ∧ R 0 97 = p ∧ (∀ i, 0 ≤ i → i < A 261 16 → R 83 i = A 273 i) ∧ R 0 134 = A 261 3 ∧ ∀ j, 0 ≤ j → j < A 261 3 → RLq A R j
theorem FJ_r (R : MM) : FJ R R := ⟨fun _ _ _ => rfl, fun _ _ => rfl⟩
theorem FJ_t {R R' R'' : MM} (h : FJ R R') (h' : FJ R' R'') : FJ R R'' := ⟨fun k a b => by rw [h'.1 k a b, h.1 k a b], fun i a => by rw [h'.2 i a, h.2 i a]⟩
theorem JS_f {D A R R' : MM} {c : Nat} {p : Int} (h : JS D c A p R) (f : FJ R R') : JS D c A p R' := by
  obtain ⟨h1, h2, h3, h4, h5, h6⟩ := h
  have e : ∀ k, k ≠ 0 → k < 93 → R' k = R k := fun k a b => f.1 k a (by omega)
  refine ⟨Rty_R h1 (fun k a b _ => e k (by omega) (by omega)) (f.2 20 (by decide)), ?_, by rw [f.2 97 (by decide)]; exact h3, by rw [e 83 (by decide) (by decide)]; exact h4, by rw [f.2 134 (by decide)]; exact h5, fun j a b => ?_⟩
  · unfold Rpb at h2 ⊢
    rw [e 38 (by decide) (by decide), e 39 (by decide) (by decide), e 40 (by decide) (by decide), e 41 (by decide) (by decide), e 42 (by decide) (by decide), e 58 (by decide) (by decide), e 55 (by decide) (by decide), e 56 (by decide) (by decide), e 57 (by decide) (by decide)]
    exact h2
  · have := h6 j a b
    unfold RLq AtK at this ⊢
    rw [e 84 (by decide) (by decide), e 85 (by decide) (by decide), e 86 (by decide) (by decide), e 87 (by decide) (by decide), e 88 (by decide) (by decide), e 89 (by decide) (by decide), e 90 (by decide) (by decide), e 91 (by decide) (by decide), e 82 (by decide) (by decide)]
    exact this
theorem FRk_e {A R R' : MM} {n : Int} (h94 : R' 94 = R 94) (h95 : R' 95 = R 95) (h61 : R' 61 = R 61) : FRk A n R' = FRk A n R := by
  unfold FRk
  rw [h94, h95, h61]
theorem p_fN {A R : MM} {n k a b : Int} (k0 : 0 ≤ k) (k1 : k < A 261 16) (k6 : A 261 16 ≤ 6) (n40 : n ≤ 40) (h83 : R 83 k = A 273 k) (ha : A 273 k = 1 ∨ A 273 k = 2 ∧ 0 ≤ b ∧ b < n) (a0 : 0 ≤ a) (a1 : a < n) {b' : Int} (hb : A 273 k = 1 ∧ b' = a ∨ A 273 k = 2 ∧ b' = b) {Q : Int → MM → Prop} (h1 : FRk A n R k a b' → Q 1 R) (h0 : ¬ FRk A n R k a b' → Q 0 R) : w_X12_isFactNow Q k a b R := by
  unfold w_X12_isFactNow
  refine ⟨k0, by omega, fun v1 e1 _ => ⟨fun z => ⟨by unfold ri_; omega, by unfold ri_; omega, by omega, by omega, fun v5 e5 o5 => ?_⟩, fun z => ⟨by unfold ri_; omega, by unfold ri_; omega, by unfold ri_; omega, by unfold ri_; omega, by omega, by omega, fun v10 e10 o10 => ?_⟩⟩⟩
  · rcases o5 with o | o
    · rw [o]
      refine h0 (fun ⟨_, _, _, _, x⟩ => ?_)
      rcases x with ⟨_, _, y | y⟩ | y | y | y
      · have := y.2.2; omega
      all_goals omega
    · rw [o]
      exact h1 ⟨a0, a1, by omega, by omega, Or.inl ⟨k0, k1, Or.inl ⟨by omega, by omega, by omega⟩⟩⟩
  · have eb : b' = b := by omega
    rw [eb] at h1 h0
    rcases o10 with o | o
    · rw [o]
      refine h0 (fun ⟨_, _, _, _, x⟩ => ?_)
      rcases x with ⟨_, _, y | y⟩ | y | y | y
      · omega
      · have := y.2; omega
      all_goals omega
    · rw [o]
      exact h1 ⟨a0, a1, by omega, by omega, Or.inl ⟨k0, k1, Or.inr ⟨by omega, by omega⟩⟩⟩
theorem p_holds {D A R : MM} {c : Nat} {p r m a b b' : Int} (hw : PW D c) (hS : JS D c A p R) (p0 : 0 ≤ p) (p5 : p < 5) (oA : OKW A) (n40 : D c 0 ≤ 40) (r0 : 0 ≤ r) (r1 : r < A 261 3) (m0 : 0 ≤ m) (m1 : m < A 266 r) (a0 : 0 ≤ a) (a1 : a < D c 0) (hb : R 91 (4 * r + m) = -1 ∧ b' = a ∨ R 91 (4 * r + m) ≠ -1 ∧ b' = b ∧ 0 ≤ b ∧ b < D c 0) {Q : Int → MM → Prop} (h1 : akH A (clD D c A) (FRk A (D c 0) R) (4 * r + m) a b' → Q 1 R) (h0 : ¬ akH A (clD D c A) (FRk A (D c 0) R) (4 * r + m) a b' → Q 0 R) : w_X12_holds Q (4 * r + m) a b R := by
  obtain ⟨s1, s2, s3, s4, s5, s6⟩ := hS
  obtain ⟨-, -, -, -, -, g266, g1, g4, -, -, -, -, -, -, -, hat⟩ := s6 r r0 r1
  obtain ⟨hk, t1, t2, t3, t4, t5⟩ := hat m m0 m1
  have r12 := oA.2.2.2.1
  have i0 : 0 ≤ 4 * r + m := by omega
  have i48 : 4 * r + m < 48 := by omega
  generalize 4 * r + m = i at *
  have n0 := hw.1
  unfold w_X12_holds
  refine ⟨by omega, by omega, fun v1 e1 _ => ?_⟩
  rw [e1]
  rcases hk with ⟨k1, k2, k3, k4, k5, k6⟩ | ⟨k1, k2, k3⟩ | ⟨k1, k2, k3, k4, k5⟩ | ⟨k1, k2, k3⟩ | ⟨k1, k2, k3⟩
  · have nk : A 267 i ≠ 9 := by omega
    rw [k4]
    refine ⟨fun _ => ⟨by omega, by omega, fun v3 e3 _ => ?_⟩, fun y => absurd y (by decide), fun y => absurd y (by decide), fun y => absurd y (by decide), fun y => absurd rfl y.1⟩
    rw [e3, k5]
    exact p_fN (b' := b') k1 k2 oA.2.1 n40 (s4 _ k1 k2) (by omega) a0 a1 (by omega) (fun y _ => h1 (Or.inr ⟨nk, y⟩)) (fun y _ => h0 (fun z => z.elim (fun z => nk z.1) (fun z => y z.2)))
  · have nk : A 267 i ≠ 9 := by omega
    rw [k2]
    refine ⟨fun y => absurd y (by decide), fun _ => ⟨by unfold ri_; omega, by unfold ri_; omega, by omega, by omega, fun v9 e9 o9 => ?_⟩, fun y => absurd y (by decide), fun y => absurd y (by decide), fun y => absurd rfl y.2.1⟩
    have eb : b' = b := by omega
    rw [eb] at h1 h0
    rcases o9 with o | o
    · rw [o]
      refine h0 (fun z => z.elim (fun z => nk z.1) (fun ⟨_, _, _, _, _, x⟩ => ?_))
      rw [k1] at x
      rcases x with y | y | y | y
      · have := y.2.1; have := oA.2.1; omega
      · have := y.2; omega
      all_goals omega
    · rw [o]
      exact h1 (Or.inr ⟨nk, a0, a1, by omega, by omega, Or.inr (Or.inl ⟨k1, by omega⟩)⟩)
  · rw [k2]
    refine ⟨fun y => absurd y (by decide), fun y => absurd y (by decide), fun _ => ?_, fun y => absurd y (by decide), fun y => absurd rfl y.2.2.1⟩
    intro v11 e11 _
    rw [e11, s3]
    have e40 : R 40 (400 * p + a) = D (c + 2) a := (s2.2.1 a a0 a1).2.1.symm
    have pt := (hw.2.2.2.1 a a0 a1).2.2.1
    have h16 := s1.2.2.1
    have h20 : R 0 20 = D 8 0 := s1.1.symm
    unfold vT at pt
    refine p_at p0 p5 a0 (by omega) (fun _ => ⟨by omega, by omega, fun v14 e14 _ => ?_⟩)
    rw [e40] at e14
    rw [e14]
    have no : ¬ (D (c + 2) a < 20 ∧ isN D (D (c + 2) a) (A 270 i)) → Q 0 R := fun q => h0 (fun z => z.elim (fun z => q z.2) (fun z => z.1 k1))
    refine p_R_isClass (fun l1 l2 _ => ⟨fun y => absurd y (by decide), fun _ v18 e18 _ => ?_⟩) (fun l _ => ⟨fun _ => no (fun q => l ?_), fun y => absurd rfl y⟩)
    · rw [e18, s3]
      refine p_at p0 p5 a0 (by omega) (fun _ => ⟨by omega, by omega, fun v21 e21 _ => ⟨by omega, by omega, fun v22 e22 _ => ?_⟩⟩)
      rw [e40] at e21
      rw [e21, e22]
      exact p_R_isNm s1 l1 (by omega) k3 (fun q _ => ⟨fun y => absurd y (by decide), fun _ => h1 (Or.inl ⟨k1, by omega, q⟩)⟩) (fun q _ => ⟨fun _ => no (fun z => q z.2), fun y => absurd rfl y⟩)
    · have := q.1; omega
  · have nk : A 267 i ≠ 9 := by omega
    have eb : b' = b := by omega
    rw [eb] at h1 h0
    rw [k2]
    refine ⟨fun y => absurd y (by decide), fun y => absurd y (by decide), fun y => absurd y (by decide), fun _ => ⟨fun y => h0 (fun z => z.elim (fun z => nk z.1) (fun ⟨_, _, _, _, _, x⟩ => ?_)), fun y => h1 (Or.inr ⟨nk, a0, a1, by omega, by omega, Or.inr (Or.inr (Or.inl ⟨k1, y⟩))⟩)⟩, fun y => absurd rfl y.2.2.2⟩
    rw [k1] at x
    rcases x with w | w | w | w
    · have := w.2.1; have := oA.2.1; omega
    all_goals omega
  · have nk : A 267 i ≠ 9 := by omega
    have eb : b' = b := by omega
    rw [eb] at h1 h0
    rw [k2]
    refine ⟨fun y => absurd y (by decide), fun y => absurd y (by decide), fun y => absurd y (by decide), fun y => absurd y (by decide), fun _ => ⟨fun y => h0 (fun z => z.elim (fun z => nk z.1) (fun ⟨_, _, _, _, _, x⟩ => ?_)), fun y => h1 (Or.inr ⟨nk, a0, a1, by omega, by omega, Or.inr (Or.inr (Or.inr ⟨k1, y⟩))⟩)⟩⟩
    rw [k1] at x
    rcases x with w | w | w | w
    · have := w.2.1; have := oA.2.1; omega
    all_goals omega
