/-! what stands before the first call -/
def C00 (C : MM) : Prop := C 1 1 = 0 ∧ (∀ k i, k ∈ [3, 12, 13, 14, 15, 16, 21, 32, 43, 223, 230, 231] → C k i = 0) ∧ C 8 0 = 0 ∧ (∀ i, i ∈ ([1, 2, 3, 11] : List Int) → C 26 i = 0) ∧ (∀ i, i ∈ ([1, 5, 6, 7] : List Int) → C 36 i = 0) ∧ (∀ p, 0 ≤ p → p < 4 → C 45 p = 46 + 33 * p) ∧ C 0 5 = 178 ∧ C 0 10 = 0 ∧ C 0 15 = 0 ∧ C 0 16 = 0 ∧ C 0 17 = -1 ∧ (∀ q, isP q → C q 0 = 0 ∧ C q 11 = 0 ∧ C q 16 = 0 ∧ C (q + 4) 0 = 0 ∧ (∀ o, 0 ≤ o → o < 400 → C (q + 8) o = -1) ∧ (∀ t, 0 ≤ t → t < 400 → C (q + 13) t = 0) ∧ C (q + 18) 1 = 0) ∧ C 219 20 = 0 ∧ (∀ k, 0 ≤ k → k < 3 → C 235 k = 236 + 8 * k) ∧ C 261 16 = 0 ∧ C 274 1 = 0 ∧ C 280 4 = 0 ∧ C 280 5 = 0
def R00 (R : MM) : Prop := (∀ i, i ∈ ([3, 20, 26, 27, 28, 29, 31, 36, 44, 75, 81, 110, 113, 114, 133, 148, 149] : List Int) → R 0 i = 0) ∧ R 0 82 = -1 ∧ ∀ k i, k ∈ [1, 2, 6, 18, 38, 52, 53, 54, 55, 99] → R k i = 0
theorem rk_00 (P : Int → Prop) : rk P 0 = 0 := rfl
theorem PW_0 {C : MM} {q : Nat} (h : C q 0 = 0 ∧ C q 11 = 0 ∧ C q 16 = 0 ∧ C (q + 4) 0 = 0 ∧ (∀ o, 0 ≤ o → o < 400 → C (q + 8) o = -1) ∧ (∀ t, 0 ≤ t → t < 400 → C (q + 13) t = 0) ∧ C (q + 18) 1 = 0) : PW C q := by
  obtain ⟨a, b, c, d, e, f, g⟩ := h
  exact ⟨by omega, by omega, d, fun t x y => by omega, by rw [a, d]; decide, fun t k x y => by omega, fun o x y => Or.inl (e o x y), by omega, by omega, fun r x y => by omega, fun r x y => by omega, fun t x y => f t (by omega) y, fun t x y => by omega, fun t x y => by omega⟩
theorem Ral_0 {C R : MM} (hC : C00 C) (hR : R00 R) (hk : Rkey C R) (hd : Kd R) (n1 : nr (C 261 1) 2877) (n2 : nr (C 261 2) 12184058) (hw : KWn C) : Ral 0 C R := by
  obtain ⟨c1, cz, c8, c26, c36, c45, c05, c010, c015, c016, c017, cp, c219, c235, c261, c274, c2804, c2805⟩ := hC
  obtain ⟨r0, r82, rz⟩ := hR
  have z : ∀ k i, k = 3 ∨ k = 12 ∨ k = 13 ∨ k = 14 ∨ k = 15 ∨ k = 16 ∨ k = 21 ∨ k = 32 ∨ k = 43 ∨ k = 223 ∨ k = 230 ∨ k = 231 → C k i = 0 := fun k i hk => cz k i (by simp only [List.mem_cons, List.not_mem_nil, or_false]; omega)
  have y : ∀ k i, k = 1 ∨ k = 2 ∨ k = 6 ∨ k = 18 ∨ k = 38 ∨ k = 52 ∨ k = 53 ∨ k = 54 ∨ k = 55 ∨ k = 99 → R k i = 0 := fun k i hk => rz k i (by simp only [List.mem_cons, List.not_mem_nil, or_false]; omega)
  have w : ∀ i, i ∈ ([3, 20, 26, 27, 28, 29, 31, 36, 44, 75, 81, 110, 113, 114, 133, 148, 149] : List Int) → R 0 i = 0 := r0
  have e26 : ∀ i, i = 1 ∨ i = 2 ∨ i = 3 ∨ i = 11 → C 26 i = 0 := fun i hi => c26 i (by simp only [List.mem_cons, List.not_mem_nil, or_false]; omega)
  have e36 : ∀ i, i = 1 ∨ i = 5 ∨ i = 6 ∨ i = 7 → C 36 i = 0 := fun i hi => c36 i (by simp only [List.mem_cons, List.not_mem_nil, or_false]; omega)
  have hY : Rty C R := ⟨by rw [c8, w 20 (by decide)], by omega, by omega, fun c a b => by omega, fun c a b => ⟨z 12 c (by omega), z 13 c (by omega), y 18 c (by omega), z 14 c (by omega), z 15 c (by omega), z 16 c (by omega)⟩, fun c k a b d e => z 21 _ (by omega)⟩
  have hA : RA C R := ⟨⟨by rw [c1, w 3 (by decide)], by omega, by omega, fun i a b => by omega, fun i a b => by rw [z 3 i (by omega), y 2 i (by omega)]; rfl⟩, fun i => by rw [y 1 i (by omega)]; decide, fun i => by rw [y 2 i (by omega)]; decide, hk, hY⟩
  have m1 := e26 1 (by omega)
  have hH : Rhp C R := ⟨by rw [m1, w 26 (by decide)], by omega, by omega, by rw [e26 2 (by omega), m1]; rfl, by rw [e26 3 (by omega), w 28 (by decide)], by rw [e26 3 (by omega), m1]; rfl, by rw [e26 3 (by omega)]; decide, by rw [w 27 (by decide)]; decide, by rw [w 27 (by decide), m1]; decide, fun o a b => by omega, fun o o' a b d => by omega, ⟨by rw [e26 11 (by omega), w 31 (by decide)], by rw [e26 11 (by omega)]; decide, by rw [e26 11 (by omega)]; decide, fun k a b => by rw [e26 11 (by omega)] at b; omega, fun j k a b d => by rw [e26 11 (by omega)] at d; omega⟩, fun f a b => by rw [z 32 f (by omega), y 6 f (by omega)], fun c k a b => by omega⟩
  have hJ : Rjn C R := ⟨by rw [e36 1 (by omega), w 29 (by decide)], by rw [e36 1 (by omega)]; decide, ⟨by rw [e36 5 (by omega)]; decide, by rw [e36 5 (by omega)]; decide, by rw [e36 6 (by omega)]; decide, by rw [e36 6 (by omega)]; decide, by rw [e36 6 (by omega), w 36 (by decide)], fun k a b => by rw [e36 6 (by omega)] at b; omega⟩, ⟨by rw [e36 7 (by omega), w 44 (by decide)], by rw [e36 7 (by omega)]; decide, by rw [e36 7 (by omega)]; decide, fun v a b => by rw [e36 7 (by omega)] at b; omega, fun v a b => z 43 v (by omega)⟩⟩
  have hpc : ∀ q p, isP q → Rpic C R q p := fun q p iq => by
    have h := cp q iq
    have hW := PW_0 h
    obtain ⟨a, b, c, d, e, f, g⟩ := h
    have j := kb_0
    refine ⟨hW, ⟨by rw [a, y 38 p (by omega)], fun t u v => by omega, fun t k u v => by omega, by rw [b, y 55 p (by omega)], fun r u v => by omega⟩, ⟨fun t u v => by omega, by rw [c, y 52 p (by omega)], by omega, by omega, fun k u v => by omega, fun t u v => by omega, ⟨by rw [y 53 p (by omega), a]; rfl, fun t u v => by omega⟩, ⟨by rw [y 54 p (by omega), a]; rfl, fun t u v => by omega⟩⟩, ⟨by omega, by omega, fun x => absurd (by rw [g]; exact j.1) x, fun x => absurd (by rw [g]; exact j.2.1) x, fun x => absurd (by rw [g]; exact j.2.2.1) x, fun x => absurd (by rw [g]; exact j.2.2.2) x⟩⟩
  have hP : Rps C R := by
    have ip : ∀ p : Int, 0 ≤ p → p < 5 → isP (46 + 33 * p).toNat := fun p a b => by unfold isP; omega
    refine ⟨fun p => (46 + 33 * p).toNat, fun p a b => ⟨?_, hpc _ p (ip p a (by omega))⟩, ?_, PF_of (hpc _ 4 (ip 4 (by decide) (by decide))).1, fun p a b => ip p a b, fun p q a b d e => by
      have e' : (46 + 33 * p).toNat = (46 + 33 * q).toNat := e
      omega⟩
    · rw [c45 p a b]
      show 46 + 33 * p = (((46 + 33 * p).toNat : Nat) : Int)
      omega
    · rw [c05]; rfl
  refine ⟨⟨⟨hA, fun c k a b => by omega, hH⟩, hJ, hP⟩, hd, ⟨by rw [c015, w 75 (by decide)], by omega, by omega, fun k a b => by omega⟩, ⟨by rw [c016, w 81 (by decide)], by rw [c017, r82]⟩, ⟨by rw [c2804, w 148 (by decide)], by rw [c2805, w 149 (by decide)], by omega, by omega, by omega, fun i a b => by omega, fun i => by rw [y 99 i (by omega)]; decide, fun _ => 0, rfl, by rw [c2804], fun k hk => by omega⟩, ⟨by rw [c219, w 110 (by decide)], by omega, by omega, fun k a b => by omega⟩, ⟨by rw [c010, w 113 (by decide)], by omega, by omega, fun k a b => ?_, fun k a b => by omega, Or.inl (w 114 (by decide)), fun k a b => by omega⟩, ⟨by rw [c261, w 133 (by decide)], by omega, by omega, by omega, by omega, fun k a b => by omega⟩, fun f a b => ?_, by rw [e36 1 (by omega)]; decide, n1, n2, hw⟩
  · rw [c235 k a b]; unfold pcl; omega
  · rw [z 231 f (by omega), z 223 f (by omega)]
    exact ⟨by decide, by omega, fun t u v => by rw [z 230 _ (by omega)]; decide, by decide⟩
