/-! all pictures, on both sides -/
/-- what holds a thing, in order: roots, then slots -/
def hR (C : MM) (c : Nat) (t : Int) : Nat → List (Int × Int)
  | 0 => []
  | r + 1 => if C (c + 12) r = t then hR C c t r ++ [(-1, C (c + 11) r)] else hR C c t r
def hK (C : MM) (c : Nat) (t u : Int) : Nat → List (Int × Int)
  | 0 => []
  | k + 1 => if lv C c u k = t then hK C c t u k ++ [(u, (k : Int))] else hK C c t u k
def hU (C : MM) (c : Nat) (t : Int) : Nat → List (Int × Int)
  | 0 => hR C c t (C c 11).toNat
  | u + 1 => hU C c t u ++ hK C c t u (pcn C c u).toNat
def hl (C : MM) (c : Nat) (t : Int) : List (Int × Int) := hU C c t (C c 0).toNat
def HD (C : MM) (c : Nat) : Prop := C (c + 19) 0 = 0 ∧ ∀ t, 0 ≤ t → t < C c 0 → C (c + 19) (t + 1) = C (c + 19) t + (hl C c t).length ∧ ∀ j : Nat, j < (hl C c t).length → C (c + 20) (C (c + 19) t + j) = ((hl C c t).getD j (0, 0)).1 ∧ C (c + 21) (C (c + 19) t + j) = ((hl C c t).getD j (0, 0)).2
def ShK (C R : MM) (c : Nat) (p : Int) : Prop := 0 ≤ C (c + 18) 1 ∧ C (c + 18) 1 ≤ 15 ∧ (jand (C (c + 18) 1) 1 ≠ 0 → HD C c) ∧ (jand (C (c + 18) 1) 2 ≠ 0 → ∀ t, 0 ≤ t → t < C c 0 → C (c + 22) t = R 46 (400 * p + t) ∧ C (c + 23) t = R 47 (400 * p + t) ∧ C (c + 24) t = R 48 (400 * p + t)) ∧ (jand (C (c + 18) 1) 4 ≠ 0 → C (c + 18) 9 = R 53 p ∧ ∀ t, 0 ≤ t → t < C c 0 → C (c + 25) t = R 49 (400 * p + t)) ∧ (jand (C (c + 18) 1) 8 ≠ 0 → C (c + 18) 11 = R 54 p ∧ ∀ t, 0 ≤ t → t < C c 0 → C (c + 26) t = R 50 (400 * p + t))
def Rpic (C R : MM) (c : Nat) (p : Int) : Prop := PW C c ∧ Rpb C R c p ∧ Rtb C R c p ∧ ShK C R c p
def Rps (C R : MM) : Prop := ∃ cs : Int → Nat, (∀ p, 0 ≤ p → p < 4 → C 45 p = cs p ∧ Rpic C R (cs p) p) ∧ C 0 5 = cs 4 ∧ PF C (cs 4) ∧ (∀ p, 0 ≤ p → p < 5 → isP (cs p)) ∧ ∀ p q, 0 ≤ p → p < q → q < 5 → cs p ≠ cs q
theorem pB_of {c : Nat} (h : isP c) : pB c := by unfold isP at h; unfold pB; omega
theorem pw_fr {C C' R0 : MM} {c : Nat} (hY : Rty C R0) (hw : PW C c) (hl : tyLe C C') (e0 : C' c 0 = C c 0) (e11 : C' c 11 = C c 11) (e : ∀ q, c < q → q ≤ c + 12 → C' q = C q) (e13 : ∀ t, C c 0 ≤ t → t < 400 → C' (c + 13) t = 0) : PW C' c := by
  obtain ⟨hp, e1, e2⟩ := gr_eq hY hw hl e0 e11 e
  have hw0 := hw
  obtain ⟨h1, h2, h3, h4, h5, h6, h7, h8, h9, h10, h11, h12, h13, h14⟩ := hw
  have h16 := hY.2.2.1
  have elv : lv C' c = lv C c := by funext t k; unfold lv; rw [e (c + 4) (by omega) (by omega), e (c + 9) (by omega) (by omega), e (c + 10) (by omega) (by omega)]
  have eFO : ∀ t f s, FO C c t f s → FO C' c t f s := by
    intro t f s h
    unfold FO at h ⊢
    rw [e0, e11, e (c + 11) (by omega) (by omega), e (c + 12) (by omega) (by omega), elv]
    rcases h with q | ⟨a1, a2, a3, a4, a5, a6, a7⟩
    · exact Or.inl q
    · exact Or.inr ⟨a1, a2, a3, by rw [(hp f a1 a2).1]; exact a4, a5, a6, fun f' s' b1 b2 b3 b4 => a7 f' s' b1 b2 b3 (by rw [← (hp f' b1 (by omega)).1]; exact b4)⟩
  unfold PW
  rw [e0, e11, e (c + 1) (by omega) (by omega), e (c + 4) (by omega) (by omega), e (c + 6) (by omega) (by omega), e (c + 7) (by omega) (by omega), e (c + 8) (by omega) (by omega), e (c + 11) (by omega) (by omega), e (c + 12) (by omega) (by omega)]
  refine ⟨h1, h2, h3, fun t t0 t1 => ?_, h5, fun t k t0 t1 k0 k1 => ?_, h7, h8, h9, h10, h11, e13, fun t t0 t1 => ?_, h14⟩
  · obtain ⟨a1, a2, a3, a4, a5, a6, a7, a8⟩ := h4 t t0 t1
    unfold PT
    rw [(hp t t0 t1).1, e (c + 1) (by omega) (by omega), e (c + 2) (by omega) (by omega), e (c + 3) (by omega) (by omega), e (c + 4) (by omega) (by omega), e (c + 8) (by omega) (by omega)]
    refine ⟨a1, a2, vT_mono a3 hl.1, fun q => ⟨?_, (a4 q).2⟩, a5, a6, a7, a8⟩
    unfold vT at a3
    exact ((hl.2 _ (by omega) (by omega)).2.2.1 (a4 q).1).1
  · rw [(hp t t0 t1).1] at k1
    obtain ⟨a1, a2⟩ := h6 t k t0 t1 k0 k1
    obtain ⟨b1, b2⟩ := (hp t t0 t1).2.2 k k0 k1
    unfold pK at a2
    unfold PV pK
    rw [e0, e (c + 2) (by omega) (by omega), e (c + 4) (by omega) (by omega), e (c + 9) (by omega) (by omega), e (c + 10) (by omega) (by omega), b1, b2]
    refine ⟨a1, ?_⟩
    rcases a2 with ⟨q1, q2 | ⟨q2, q3, q4⟩⟩ | q
    · exact Or.inl ⟨q1, Or.inl q2⟩
    · exact Or.inl ⟨q1, Or.inr ⟨q2, q3, le_ft hY hl (h4 _ q2 q3).2.2.1 q4⟩⟩
    · exact Or.inr q
  · obtain ⟨a1, a2, a3, a4⟩ := h13 t t0 t1
    unfold PZ
    rw [e (c + 5) (by omega) (by omega), e (c + 6) (by omega) (by omega), e (c + 7) (by omega) (by omega)]
    exact ⟨eFO _ _ _ a1, a2, a3, a4⟩
theorem hl_fr {C C' R0 : MM} {c : Nat} (hY : Rty C R0) (hw : PW C c) (hl' : tyLe C C') (e0 : C' c 0 = C c 0) (e11 : C' c 11 = C c 11) (e : ∀ q, c < q → q ≤ c + 12 → C' q = C q) (t : Int) : hl C' c t = hl C c t := by
  obtain ⟨hp, e1, e2⟩ := gr_eq hY hw hl' e0 e11 e
  have n0 := hw.1
  have elv : lv C' c = lv C c := by funext t k; unfold lv; rw [e (c + 4) (by omega) (by omega), e (c + 9) (by omega) (by omega), e (c + 10) (by omega) (by omega)]
  have eR : ∀ r, hR C' c t r = hR C c t r := by
    intro r
    induction r with
    | zero => rfl
    | succ r ih =>
      show (if C' (c + 12) r = t then hR C' c t r ++ [(-1, C' (c + 11) r)] else hR C' c t r) = (if C (c + 12) r = t then hR C c t r ++ [(-1, C (c + 11) r)] else hR C c t r)
      rw [ih, e (c + 11) (by omega) (by omega), e (c + 12) (by omega) (by omega)]
  have eK : ∀ u k, hK C' c t u k = hK C c t u k := by
    intro u k
    induction k with
    | zero => rfl
    | succ k ih =>
      show (if lv C' c u k = t then hK C' c t u k ++ [(u, (k : Int))] else hK C' c t u k) = (if lv C c u k = t then hK C c t u k ++ [(u, (k : Int))] else hK C c t u k)
      rw [ih, elv]
  have eU : ∀ u : Nat, (u : Int) ≤ C c 0 → hU C' c t u = hU C c t u := by
    intro u
    induction u with
    | zero => intro _; show hR C' c t (C' c 11).toNat = hR C c t (C c 11).toNat; rw [eR, e11]
    | succ u ih =>
      intro hu
      show hU C' c t u ++ hK C' c t u (pcn C' c u).toNat = hU C c t u ++ hK C c t u (pcn C c u).toNat
      rw [ih (by omega), eK, (hp u (by omega) (by omega)).1]
  unfold hl
  rw [e0]
  exact eU _ (by omega)
theorem pic_fr0 {C C' R R' R0 : MM} {c : Nat} {p : Int} (hY : Rty C R0) (h : Rpic C R c p) (hl' : tyLe C C') (e0 : C' c 0 = C c 0) (e11 : C' c 11 = C c 11) (e : ∀ q, c < q → q ≤ c + 12 → C' q = C q) (es : ∀ q, c + 18 ≤ q → q ≤ c + 26 → C' q = C q) (e13 : ∀ t, C c 0 ≤ t → t < 400 → C' (c + 13) t = 0) (ch : ∀ t, 0 ≤ t → t < C c 0 → C' (c + 13) t = R' 59 (400 * p + t)) (lo : C' c 16 = R' 52 p ∧ 0 ≤ C' c 16 ∧ C' c 16 ≤ 400 ∧ ∀ k, 0 ≤ k → k < C' c 16 → C' (c + 14) k = R' 51 (400 * p + k)) (r : ∀ k i, 38 ≤ k → k ≤ 59 → k ≠ 51 → k ≠ 52 → k ≠ 59 → rw_ k p i → R' k i = R k i) : Rpic C' R' c p := by
  obtain ⟨hw, hb, ht, hs⟩ := h
  have n0 := hw.1
  have n4 := hw.2.1
  have hw' := pw_fr hY hw hl' e0 e11 e e13
  obtain ⟨hp, -, -⟩ := gr_eq hY hw hl' e0 e11 e
  obtain ⟨s1, s2, s3⟩ := sp_eq hY hw hl' e0 e11 e
  have r1 : ∀ k i, 39 ≤ k ∧ k ≤ 50 → 0 ≤ i → i < 400 → R' k (400 * p + i) = R k (400 * p + i) := fun k i hk a b => r k _ (by omega) (by omega) (by omega) (by omega) (by omega) (by unfold rw_; omega)
  have r2 : ∀ k, k = 38 ∨ (53 ≤ k ∧ k ≤ 55) → R' k p = R k p := fun k hk => r k _ (by omega) (by omega) (by omega) (by omega) (by omega) (by unfold rw_; omega)
  obtain ⟨b1, b2, b3, b4, b5⟩ := hb
  obtain ⟨t1, t2, t3, t4, t5, t6, t7, t8⟩ := ht
  refine ⟨hw', ?_, ?_, ?_⟩
  · unfold Rpb
    rw [e0, e11, e (c + 1) (by omega) (by omega), e (c + 2) (by omega) (by omega), e (c + 3) (by omega) (by omega), e (c + 4) (by omega) (by omega), e (c + 9) (by omega) (by omega), e (c + 11) (by omega) (by omega), e (c + 12) (by omega) (by omega)]
    refine ⟨by rw [r2 38 (by omega)]; exact b1, fun t a b => ?_, fun t k a b d f => ?_, by rw [r2 55 (by omega)]; exact b4, fun q a b => ?_⟩
    · rw [r1 39 t (by omega) a (by omega), r1 40 t (by omega) a (by omega), r1 41 t (by omega) a (by omega), r1 42 t (by omega) a (by omega)]; exact b2 t a b
    · rw [(hp t a b).1] at f
      have := pw_at hY hw a b d f
      rw [r 58 _ (by omega) (by omega) (by omega) (by omega) (by omega) (by unfold rw_; omega)]; exact b3 t k a b d f
    · have := hw.2.2.2.2.2.2.2.2.1
      rw [r 56 _ (by omega) (by omega) (by omega) (by omega) (by omega) (by unfold rw_; omega), r 57 _ (by omega) (by omega) (by omega) (by omega) (by omega) (by unfold rw_; omega)]; exact b5 q a b
  · unfold Rtb
    rw [e0, e (c + 5) (by omega) (by omega), e (c + 6) (by omega) (by omega), e (c + 7) (by omega) (by omega)]
    refine ⟨fun t a b => ?_, lo.1, lo.2.1, lo.2.2.1, lo.2.2.2, ?_, ?_, ?_⟩
    · rw [r1 43 t (by omega) a (by omega), r1 44 t (by omega) a (by omega), r1 45 t (by omega) a (by omega)]; exact ⟨(t1 t a b).1, (t1 t a b).2.1, (t1 t a b).2.2.1, ch t a b⟩
    · refine s1 _ _ _ fun t a b => ?_
      have := t6 t a b
      simp only [r1 46 t (by omega) a (by omega), r1 47 t (by omega) a (by omega), r1 48 t (by omega) a (by omega)]
      exact this
    · refine s2 _ _ ⟨by rw [r2 53 (by omega)]; exact t7.1, fun t a b => ?_⟩
      have := t7.2 t a b
      simp only [r1 49 t (by omega) a (by omega)]
      exact this
    · refine s3 _ _ ⟨by rw [r2 54 (by omega)]; exact t8.1, fun t a b => ?_⟩
      have := t8.2 t a b
      simp only [r1 50 t (by omega) a (by omega)]
      exact this
  · obtain ⟨k1, k2, k3, k4, k5, k6⟩ := hs
    unfold ShK
    rw [e0, es (c + 18) (by omega) (by omega), es (c + 22) (by omega) (by omega), es (c + 23) (by omega) (by omega), es (c + 24) (by omega) (by omega), es (c + 25) (by omega) (by omega), es (c + 26) (by omega) (by omega)]
    refine ⟨k1, k2, fun q => ?_, fun q t a b => ?_, fun q => ⟨by rw [r2 53 (by omega)]; exact (k5 q).1, fun t a b => ?_⟩, fun q => ⟨by rw [r2 54 (by omega)]; exact (k6 q).1, fun t a b => ?_⟩⟩
    · have := k3 q
      unfold HD at this ⊢
      rw [e0, es (c + 19) (by omega) (by omega), es (c + 20) (by omega) (by omega), es (c + 21) (by omega) (by omega)]
      refine ⟨this.1, fun t a b => ?_⟩
      rw [hl_fr hY hw hl' e0 e11 e t]
      exact this.2 t a b
    · rw [r1 46 t (by omega) a (by omega), r1 47 t (by omega) a (by omega), r1 48 t (by omega) a (by omega)]; exact k4 q t a b
    · rw [r1 49 t (by omega) a (by omega)]; exact (k5 q).2 t a b
    · rw [r1 50 t (by omega) a (by omega)]; exact (k6 q).2 t a b
theorem pic_fr {C C' R R' R0 : MM} {c : Nat} {p : Int} (hY : Rty C R0) (h : Rpic C R c p) (hl' : tyLe C C') (e : ∀ q, c ≤ q → q ≤ c + 32 → C' q = C q) (r : ∀ k i, 38 ≤ k → k ≤ 59 → rw_ k p i → R' k i = R k i) : Rpic C' R' c p := by
  have n4 := h.1.2.1
  have ht := h.2.2.1
  refine pic_fr0 hY h hl' (by rw [e c (by omega) (by omega)]) (by rw [e c (by omega) (by omega)]) (fun q a b => e q (by omega) (by omega)) (fun q a b => e q (by omega) (by omega)) (fun t a b => by rw [e (c + 13) (by omega) (by omega)]; exact h.1.2.2.2.2.2.2.2.2.2.2.2.1 t a b) (fun t a b => ?_) ⟨?_, ?_, ?_, fun k a b => ?_⟩ (fun k i a b _ _ _ d => r k i a b d)
  · rw [e (c + 13) (by omega) (by omega), r 59 _ (by omega) (by omega) (by unfold rw_; omega)]; exact (ht.1 t a b).2.2.2
  · rw [e c (by omega) (by omega), r 52 _ (by omega) (by omega) (by unfold rw_; omega)]; exact ht.2.1
  · rw [e c (by omega) (by omega)]; exact ht.2.2.1
  · rw [e c (by omega) (by omega)]; exact ht.2.2.2.1
  · rw [e c (by omega) (by omega)] at b
    have := ht.2.2.2.1
    rw [e (c + 14) (by omega) (by omega), r 51 _ (by omega) (by omega) (by unfold rw_; omega)]; exact ht.2.2.2.2.1 k a b
theorem ps_fr {C C' R R' R0 : MM} (hY : Rty C R0) (h : Rps C R) (hl : tyLe C C') (e : ∀ q, 45 ≤ q → q ≤ 210 → C' q = C q) (e0 : C' 0 5 = C 0 5) (r : ∀ k, 38 ≤ k → k ≤ 59 → R' k = R k) : Rps C' R' := by
  obtain ⟨cs, h1, h2, h3, h4, h5⟩ := h
  have hi : ∀ p, 0 ≤ p → p < 5 → 46 ≤ cs p ∧ cs p ≤ 178 := fun p a b => by have := h4 p a b; unfold isP at this; omega
  refine ⟨cs, fun p a b => ⟨by rw [e 45 (by omega) (by omega)]; exact (h1 p a b).1, pic_fr hY (h1 p a b).2 hl (fun q x y => e q (by have := hi p a (by omega); omega) (by have := hi p a (by omega); omega)) (fun k i x y _ => by rw [r k x y])⟩, by rw [e0]; exact h2, ?_, h4, h5⟩
  have := hi 4 (by omega) (by omega)
  unfold PF at h3 ⊢
  rw [e (cs 4) (by omega) (by omega), e (cs 4 + 1) (by omega) (by omega), e (cs 4 + 4) (by omega) (by omega), e (cs 4 + 8) (by omega) (by omega), e (cs 4 + 13) (by omega) (by omega)]
  exact h3
