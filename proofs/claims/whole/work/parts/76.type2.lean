/-! a class is added on both sides -/
theorem upn_up (C : MM) (c : Int) (hc : c ≠ -1) (m : Nat) : upn C c (m + 1) = upn C (C 11 c) m := by
  induction m with
  | zero => show (if c = -1 then -1 else C 11 c) = C 11 c; rw [if_neg hc]
  | succ m ih =>
    show (if upn C c (m + 1) = -1 then -1 else C 11 (upn C c (m + 1))) = (if upn C (C 11 c) m = -1 then -1 else C 11 (upn C (C 11 c) m))
    rw [ih]
theorem upn_same {C C' : MM} {n : Int} (h : ∀ i, 0 ≤ i → i < n → C' 11 i = C 11 i) (hp : ∀ i, 0 ≤ i → i < n → -1 ≤ C 11 i ∧ C 11 i < i) {c : Int} (c0 : -1 ≤ c) (c1 : c < n) (m : Nat) : upn C' c m = upn C c m ∧ -1 ≤ upn C c m ∧ upn C c m < n := by
  induction m with
  | zero => exact ⟨rfl, c0, c1⟩
  | succ m ih =>
    obtain ⟨i1, i2, i3⟩ := ih
    show (if upn C' c m = -1 then -1 else C' 11 (upn C' c m)) = (if upn C c m = -1 then -1 else C 11 (upn C c m)) ∧ -1 ≤ (if upn C c m = -1 then -1 else C 11 (upn C c m)) ∧ (if upn C c m = -1 then -1 else C 11 (upn C c m)) < n
    rw [i1]
    by_cases z : upn C c m = -1
    · rw [if_pos z, if_pos z]; exact ⟨rfl, by omega, by omega⟩
    · rw [if_neg z, if_neg z]
      have := hp (upn C c m) (by omega) i3
      exact ⟨h _ (by omega) i3, by omega, by omega⟩
theorem lb_n0 {st kd : Int → Int} {b e : Int} : lb st kd b e 0 0 = e := by simp [lb, lw]
set_option maxHeartbeats 1000000 in
theorem ty_add {C R C' R' : MM} {u l x v : Int} (h : Rty C R) (hx : nr x v) (hn : C 8 0 < 16) (hu : u = -1 ∨ (0 ≤ u ∧ u < C 8 0))
    (c0 : ∀ k, k = 13 ∨ k = 14 ∨ k = 15 ∨ k = 18 ∨ k = 19 ∨ k = 20 ∨ k = 21 ∨ k = 22 → C' k = C k) (c8 : C' 8 0 = C 8 0 + 1) (c9 : ∀ i, C' 9 i = if i = C 8 0 then x else C 9 i) (c10 : ∀ i, C' 10 i = if i = C 8 0 then l else C 10 i) (c11 : ∀ i, C' 11 i = if i = C 8 0 then u else C 11 i) (c12 : ∀ i, C' 12 i = if u ≠ -1 ∧ i = u then 1 else C 12 i)
    (c16 : ∀ i, C' 16 i = if u ≠ -1 ∧ i = C 8 0 then C 16 u else C 16 i) (c17 : ∀ i, C' 17 i = if i = C 8 0 then (if u = -1 then 12 else C 17 u) else C 17 i)
    (c23 : ∀ k i, (k = 23 ∨ k = 24 ∨ k = 25) → C' k i = if u ≠ -1 ∧ 96 * C 8 0 ≤ i ∧ i < 96 * C 8 0 + C 16 u then C k (96 * u + (i - 96 * C 8 0)) else C k i)
    (r0 : ∀ k, k = 5 ∨ k = 12 ∨ k = 13 ∨ k = 14 ∨ k = 15 ∨ k = 17 ∨ k = 18 → R' k = R k) (r20 : R' 0 20 = C 8 0 + 1) (r4 : ∀ i, R' 4 i = if i = C 8 0 then v else R 4 i) (r7 : ∀ i, R' 7 i = if i = C 8 0 then l else R 7 i) (r8 : ∀ i, R' 8 i = if i = C 8 0 then u else R 8 i) (r9 : ∀ i, R' 9 i = if i = C 8 0 then 0 else R 9 i)
    (r16 : ∀ i, R' 16 i = if u ≠ -1 ∧ i = u then 1 else if i = C 8 0 then 0 else R 16 i) (r10 : ∀ i, R' 10 i = if i = C 8 0 then (if u = -1 then 0 else R 10 u) else R 10 i) (r11 : ∀ i, R' 11 i = if i = C 8 0 then (if u = -1 then 12 else R 11 u) else R 11 i) : Rty C' R' := by
  have hbd := fun c => ty_bd h c
  obtain ⟨h1, h2, h3, h4, h5, h6⟩ := id h
  have k13 := c0 13 (by omega)
  have k14 := c0 14 (by omega)
  have k15 := c0 15 (by omega)
  have k18 := c0 18 (by omega)
  have k19 := c0 19 (by omega)
  have k20 := c0 20 (by omega)
  have k21 := c0 21 (by omega)
  have k22 := c0 22 (by omega)
  have q5 := r0 5 (by omega)
  have q12 := r0 12 (by omega)
  have q13 := r0 13 (by omega)
  have q14 := r0 14 (by omega)
  have q15 := r0 15 (by omega)
  have q17 := r0 17 (by omega)
  have q18 := r0 18 (by omega)
  have hpar : ∀ i, 0 ≤ i → i < C 8 0 → -1 ≤ C 11 i ∧ C 11 i < i := fun i i0 i1 => ⟨(h4 i i0 i1).1.2.2.2.1, (h4 i i0 i1).1.2.2.2.2.1⟩
  have s11 : ∀ i, 0 ≤ i → i < C 8 0 → C' 11 i = C 11 i := fun i i0 i1 => by rw [c11, if_neg (by omega)]
  refine ⟨by rw [c8, r20], by omega, by omega, ?_, ?_, ?_⟩
  · intro c cc0 cc1
    by_cases hc : c = C 8 0
    · -- the new class
      have hz := h5 (C 8 0) (by omega) hn
      have e14 : C' 14 c = 0 := by rw [k14, hc]; exact hz.2.2.2.1
      have e11 : C' 11 c = u := by rw [c11, if_pos hc]
      have eb : bsC C' c = if u = -1 then 0 else C 16 u := by
        unfold bsC
        rw [e11]
        by_cases z : u = -1
        · rw [if_pos z, if_pos z]
        · rw [if_neg z, if_neg z, c16, if_neg (by omega)]
      have ee : enC C' c = if u = -1 then 12 else C 17 u := by
        unfold enC
        rw [e11]
        by_cases z : u = -1
        · rw [if_pos z, if_pos z]
        · rw [if_neg z, if_neg z, c17, if_neg (by omega)]
      have e16 : C' 16 c = bsC C' c := by
        rw [eb, c16, hc]
        by_cases z : u = -1
        · rw [if_neg (fun q => q.1 z), if_pos z]; exact hz.2.2.2.2.2
        · rw [if_pos ⟨z, rfl⟩, if_neg z]
      refine ⟨⟨?_, ?_, ?_, ?_, ?_, ?_, ?_, ?_, ?_, ?_, ?_, ?_, ?_⟩, ⟨?_, ?_, ?_, ?_⟩, ?_, ?_⟩
      · rw [c9, r4, if_pos hc, if_pos hc]; exact hx
      · rw [c10, r7, if_pos hc, if_pos hc]
      · rw [e11, r8, if_pos hc]
      · omega
      · omega
      · rw [c12, r16, hc, if_neg (by omega), if_neg (by omega), if_pos rfl]; exact hz.1
      · rw [k13, q18, hc]; rw [hz.2.1, hz.2.2.1]
      · rw [e14, r9, if_pos hc]
      · omega
      · omega
      · rw [e16, eb, r10, if_pos hc]
        by_cases z : u = -1
        · rw [if_pos z, if_pos z]
        · rw [if_neg z, if_neg z]
          exact (h4 u (by omega) (by omega)).1.2.2.2.2.2.2.2.2.2.2.1
      · rw [c17, if_pos hc, r11, if_pos hc]
        by_cases z : u = -1
        · rw [if_pos z, if_pos z]
        · rw [if_neg z, if_neg z]
          exact (h4 u (by omega) (by omega)).1.2.2.2.2.2.2.2.2.2.2.2.1
      · rw [e11]
        by_cases z : u = -1
        · exact Or.inl z
        · exact Or.inr (by rw [c12, if_pos ⟨z, rfl⟩])
      · rw [k15, e14, hc, hz.2.2.2.2.1]; rfl
      · rw [e16, e14]; show _ = _ + 0; omega
      · rw [e14, ee, c17, if_pos hc]
        show _ = lb (C' 21) (C' 19) (6 * c) _ 0 0
        rw [lb_n0]
      · intro j j1; omega
      · intro j j0 j1
        by_cases z : u = -1
        · rw [e16, eb, if_pos z] at j1; omega
        · rw [e16, eb, if_neg z] at j1
          obtain ⟨m, x', k, s1, s2, s3, s4, s5, s6, s7, s8, s9⟩ := (h4 u (by omega) (by omega)).2.2.1 j j0 j1
          have hup := upn_same s11 hpar (c := u) (by omega) (by omega) m
          have hx' : x' < C 8 0 := by rw [← s1]; exact hup.2.2
          have sh : ∀ q, (q = 23 ∨ q = 24 ∨ q = 25) → C' q (96 * c + j) = C q (96 * u + j) := by
            intro q hq
            rw [c23 q _ hq, hc, if_pos ⟨z, by omega, by omega⟩, show 96 * u + (96 * C 8 0 + j - 96 * C 8 0) = 96 * u + j from by omega]
          refine ⟨m + 1, x', k, ?_, s2, s3, by rw [k14]; exact s4, by rw [k21]; exact s5, by rw [k22]; exact s6, ?_, ?_, ?_⟩
          · rw [upn_up C' c (by omega), e11, hup.1]; exact s1
          · rw [sh 23 (by omega), k18]; exact s7
          · rw [sh 24 (by omega), k19]; exact s8
          · rw [sh 25 (by omega), k20]; exact s9
      · intro k k0 k1; omega
    · -- an elder class
      have hlt : c < C 8 0 := by omega
      obtain ⟨⟨a1, a2, a3, a4, a5, a6, a7, a8, a9, a10, a11, a12, a13⟩, ⟨b1, b2, b3, b4⟩, d1, f1⟩ := h4 c cc0 hlt
      have e11 : C' 11 c = C 11 c := s11 c cc0 hlt
      have eb : bsC C' c = bsC C c := by
        unfold bsC
        rw [e11]
        by_cases z : C 11 c = -1
        · rw [if_pos z, if_pos z]
        · rw [if_neg z, if_neg z, c16, if_neg (by omega)]
      have ee : enC C' c = enC C c := by
        unfold enC
        rw [e11]
        by_cases z : C 11 c = -1
        · rw [if_pos z, if_pos z]
        · rw [if_neg z, if_neg z, c17, if_neg (by omega)]
      have e16 : C' 16 c = C 16 c := by rw [c16, if_neg (by omega)]
      refine ⟨⟨?_, ?_, ?_, ?_, ?_, ?_, ?_, ?_, ?_, ?_, ?_, ?_, ?_⟩, ⟨?_, ?_, ?_, ?_⟩, ?_, ?_⟩
      · rw [c9, r4, if_neg hc, if_neg hc]; exact a1
      · rw [c10, r7, if_neg hc, if_neg hc]; exact a2
      · rw [e11, r8, if_neg hc]; exact a3
      · omega
      · omega
      · rw [c12, r16]
        by_cases z : u ≠ -1 ∧ c = u
        · rw [if_pos z, if_pos z]
        · rw [if_neg z, if_neg z, if_neg hc]; exact a6
      · rw [k13, q18]; exact a7
      · rw [k14, r9, if_neg hc]; exact a8
      · rw [k14]; exact a9
      · rw [k14]; exact a10
      · rw [e16, r10, if_neg hc]; exact a11
      · rw [c17, if_neg hc, r11, if_neg hc]; exact a12
      · rw [e11]
        rcases a13 with q | q
        · exact Or.inl q
        · refine Or.inr ?_
          rw [c12]
          by_cases z : u ≠ -1 ∧ C 11 c = u
          · rw [if_pos z]
          · rw [if_neg z]; exact q
      · rw [k15, k14, k21]; exact b1
      · rw [e16, eb, k14, k21]; exact b2
      · rw [c17, if_neg hc, ee, k14, k21, k19]; exact b3
      · intro j j1
        rw [k14] at j1
        rw [k22, k21, k19, k14, q15, eb, ee]
        exact b4 j j1
      · intro j j0 j1
        rw [e16] at j1
        obtain ⟨m, x', k, s1, s2, s3, s4, s5, s6, s7, s8, s9⟩ := d1 j j0 j1
        have hup := upn_same s11 hpar (c := c) (by omega) hlt m
        have hb := hbd c cc0 hlt
        have sh : ∀ q, (q = 23 ∨ q = 24 ∨ q = 25) → C' q (96 * c + j) = C q (96 * c + j) := fun q hq => by rw [c23 q _ hq, if_neg (by omega)]
        refine ⟨m, x', k, by rw [hup.1]; exact s1, s2, s3, by rw [k14]; exact s4, by rw [k21]; exact s5, by rw [k22]; exact s6, ?_, ?_, ?_⟩
        · rw [sh 23 (by omega), k18]; exact s7
        · rw [sh 24 (by omega), k19]; exact s8
        · rw [sh 25 (by omega), k20]; exact s9
      · intro k k0 k1
        rw [k14] at k1
        unfold Rfld
        rw [k18, k19, k20, k21, k22, q5, q12, q13, q17, q14]
        exact f1 k k0 k1
  · intro c g0 g1
    rw [c8] at g0
    have := h5 c (by omega) g1
    rw [c12, if_neg (by omega), k13, q18, k14, k15, c16, if_neg (by omega)]
    exact this
  · intro c k g0 g1 g2 g3
    rw [k14] at g2
    rw [k21]; exact h6 c k g0 g1 g2 g3
