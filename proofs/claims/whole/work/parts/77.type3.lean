/-! type, on both sides -/
/-- what the tape, the keywords and the classes have in common -/
def RA (C R : MM) : Prop := Rtape C R ∧ (∀ i, -128 ≤ R 1 i ∧ R 1 i ≤ 127) ∧ (∀ i, -128 ≤ R 2 i ∧ R 2 i ≤ 127) ∧ Rkey C R ∧ Rty C R
theorem okT_of {C R : MM} (h : Rtape C R) : okT C := ⟨h.2.1, h.2.2.1, fun i i0 i1 => by have := h.2.2.2.1 i i0 i1; omega⟩
/-- the same rows on both sides keep it -/
theorem RA_of {C R C' R' : MM} (h : RA C R) (c1 : C' 1 1 = C 1 1) (c : ∀ k i, 2 ≤ k → k ≤ 25 → k ≠ 4 → k ≠ 5 → k ≠ 6 → C' k i = C k i) (r : ∀ k i, 1 ≤ k → k ≤ 18 → R' k i = R k i) (r3 : R' 0 3 = R 0 3) (r20 : R' 0 20 = R 0 20) : RA C' R' := by
  obtain ⟨⟨h1, h2, h3, h4, h5⟩, b1, b2, hk, ht⟩ := h
  have cc : ∀ k, 2 ≤ k → k ≤ 25 → k ≠ 4 → k ≠ 5 → k ≠ 6 → C' k = C k := fun k a b d e f => funext fun i => c k i a b d e f
  have rr : ∀ k, 1 ≤ k → k ≤ 18 → R' k = R k := fun k a b => funext fun i => r k i a b
  refine ⟨⟨by rw [c1, r3]; exact h1, by omega, by omega, ?_, ?_⟩, ?_, ?_, ?_, ?_⟩
  · intro i i0 i1; rw [cc 2 (by omega) (by omega) (by omega) (by omega) (by omega), rr 1 (by omega) (by omega)]; exact h4 i i0 (by omega)
  · intro i i0 i1; rw [cc 3 (by omega) (by omega) (by omega) (by omega) (by omega), rr 2 (by omega) (by omega)]; exact h5 i i0 i1
  · intro i; rw [rr 1 (by omega) (by omega)]; exact b1 i
  · intro i; rw [rr 2 (by omega) (by omega)]; exact b2 i
  · intro k k0 k1; rw [cc 7 (by omega) (by omega) (by omega) (by omega) (by omega), rr 3 (by omega) (by omega)]; exact hk k k0 k1
  · have q8 := cc 8 (by omega) (by omega) (by omega) (by omega) (by omega)
    have q9 := cc 9 (by omega) (by omega) (by omega) (by omega) (by omega)
    have q10 := cc 10 (by omega) (by omega) (by omega) (by omega) (by omega)
    have q11 := cc 11 (by omega) (by omega) (by omega) (by omega) (by omega)
    have q12 := cc 12 (by omega) (by omega) (by omega) (by omega) (by omega)
    have q13 := cc 13 (by omega) (by omega) (by omega) (by omega) (by omega)
    have q14 := cc 14 (by omega) (by omega) (by omega) (by omega) (by omega)
    have q15 := cc 15 (by omega) (by omega) (by omega) (by omega) (by omega)
    have q16 := cc 16 (by omega) (by omega) (by omega) (by omega) (by omega)
    have q17 := cc 17 (by omega) (by omega) (by omega) (by omega) (by omega)
    have q18 := cc 18 (by omega) (by omega) (by omega) (by omega) (by omega)
    have q19 := cc 19 (by omega) (by omega) (by omega) (by omega) (by omega)
    have q20 := cc 20 (by omega) (by omega) (by omega) (by omega) (by omega)
    have q21 := cc 21 (by omega) (by omega) (by omega) (by omega) (by omega)
    have q22 := cc 22 (by omega) (by omega) (by omega) (by omega) (by omega)
    have q23 := cc 23 (by omega) (by omega) (by omega) (by omega) (by omega)
    have q24 := cc 24 (by omega) (by omega) (by omega) (by omega) (by omega)
    have q25 := cc 25 (by omega) (by omega) (by omega) (by omega) (by omega)
    have hup : ∀ c m, upn C' c m = upn C c m := by
      intro c m
      induction m with
      | zero => rfl
      | succ m ih =>
        show (if upn C' c m = -1 then -1 else C' 11 (upn C' c m)) = (if upn C c m = -1 then -1 else C 11 (upn C c m))
        rw [ih, q11]
    unfold Rty Rcls Rlay Rfld slC bsC enC at ht ⊢
    simp only [q8, q9, q10, q11, q12, q13, q14, q15, q16, q17, q18, q19, q20, q21, q22, q23, q24, q25, hup, rr 4 (by omega) (by omega), rr 5 (by omega) (by omega), rr 7 (by omega) (by omega), rr 8 (by omega) (by omega), rr 9 (by omega) (by omega), rr 10 (by omega) (by omega), rr 11 (by omega) (by omega), rr 12 (by omega) (by omega), rr 13 (by omega) (by omega), rr 14 (by omega) (by omega), rr 15 (by omega) (by omega), rr 16 (by omega) (by omega), rr 17 (by omega) (by omega), rr 18 (by omega) (by omega), r20]
    exact ht
