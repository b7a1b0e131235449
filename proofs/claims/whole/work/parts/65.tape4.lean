set_option maxHeartbeats 200000 in
theorem x_endR (R : MM) (s n : Int) (hn : 0 ≤ n) (k : Nat) (i : Int) : filled (ux_ (jcp (ux_ R 0 0 0) 2 1 0 s n) 0 3 (s + n)) 2 0 20 0 k i = if k = 2 ∧ 0 ≤ i ∧ i < 20 then 0 else if k = 0 ∧ i = 3 then s + n else if k = 1 ∧ s ≤ i ∧ i < s + n then R 2 (i - s) else if k = 0 ∧ i = 0 then 0 else R k i := by
  unfold filled ux_ jcp
  by_cases a : k = 2 ∧ 0 ≤ i ∧ i < 20
  · rw [if_pos a, if_pos a]
  rw [if_neg a, if_neg a]
  by_cases b : k = 0 ∧ i = 3
  · rw [if_pos b, if_pos b]
  rw [if_neg b, if_neg b]
  by_cases c : k = 1 ∧ s ≤ i ∧ i < s + n
  · rw [if_pos c, if_pos c, show (0 : Int) + (i - s) = i - s from by omega]
    show (if (2 : Nat) = 0 ∧ i - s = 0 then 0 else R 2 (i - s)) = _
    rw [if_neg (by omega)]
  rw [if_neg c, if_neg c]
set_option maxHeartbeats 200000 in
theorem x_endC (C : MM) (s n : Int) (hn : 0 ≤ n) (k : Nat) (i : Int) : filled (ux_ (jcp C 3 2 0 s n) 1 1 (s + n)) 3 0 ((20 : Nat) : Int) 0 k i = if k = 3 ∧ 0 ≤ i ∧ i < 20 then 0 else if k = 1 ∧ i = 1 then s + n else if k = 2 ∧ s ≤ i ∧ i < s + n then C 3 (i - s) else C k i := by
  unfold filled ux_ jcp
  by_cases a : k = 3 ∧ 0 ≤ i ∧ i < 20
  · rw [if_pos (by omega), if_pos a]
  rw [if_neg (by omega), if_neg a]
  by_cases b : k = 1 ∧ i = 1
  · rw [if_pos b, if_pos b]
  rw [if_neg b, if_neg b]
  by_cases c : k = 2 ∧ s ≤ i ∧ i < s + n
  · rw [if_pos c, if_pos c, show (0 : Int) + (i - s) = i - s from by omega]
  rw [if_neg c, if_neg c]
/-! end, flip, with what stays -/
theorem rb_ri {R : MM} {i : Int} (h : -128 ≤ R 1 i ∧ R 1 i ≤ 127) : ri_ (R 1 i) := by unfold ri_; omega
set_option maxHeartbeats 300000 in
theorem t_end {C R : MM} {n : Int} (gn : ri_ n) (h : Rtape C R) (hb : ∀ i, 0 ≤ i → i < 20 → -128 ≤ R 2 i ∧ R 2 i ≤ 127) : w_X11_end (fun r C' => w_X12_end (fun r' R' => r = r' ∧ Rtape C' R' ∧ (∀ k i, (k ≠ 2 ∧ k ≠ 3 ∧ ¬ (k = 1 ∧ i = 1)) → C' k i = C k i) ∧ (∀ k i, (k ≠ 1 ∧ k ≠ 2 ∧ ¬ (k = 0 ∧ (i = 0 ∨ i = 3))) → R' k i = R k i)) n R) n C := by
  obtain ⟨h1, h2, h3, h4, h5⟩ := h
  have hm1 : ∀ C' : MM, C' = C → w_X12_end (fun r' R' => -1 = r' ∧ Rtape C' R' ∧ (∀ k i, (k ≠ 2 ∧ k ≠ 3 ∧ ¬ (k = 1 ∧ i = 1)) → C' k i = C k i) ∧ (∀ k i, (k ≠ 1 ∧ k ≠ 2 ∧ ¬ (k = 0 ∧ (i = 0 ∨ i = 3))) → R' k i = R k i)) n R ∨ True := fun _ _ => Or.inr trivial
  have hbad : (n < 0 ∨ 20 < n ∨ 4000 < C 1 1 + n) → w_X12_end (fun r' R' => -1 = r' ∧ Rtape C R' ∧ (∀ k i, (k ≠ 2 ∧ k ≠ 3 ∧ ¬ (k = 1 ∧ i = 1)) → C k i = C k i) ∧ (∀ k i, (k ≠ 1 ∧ k ≠ 2 ∧ ¬ (k = 0 ∧ (i = 0 ∨ i = 3))) → R' k i = R k i)) n R := by
    intro hn
    have hq : ∀ R1, R1 = ux_ R 0 0 0 → (-1 = -1 ∧ Rtape C R1 ∧ (∀ k i, (k ≠ 2 ∧ k ≠ 3 ∧ ¬ (k = 1 ∧ i = 1)) → C k i = C k i) ∧ (∀ k i, (k ≠ 1 ∧ k ≠ 2 ∧ ¬ (k = 0 ∧ (i = 0 ∨ i = 3))) → R1 k i = R k i)) := by
      intro R1 e1
      refine ⟨rfl, ⟨?_, h2, h3, ?_, ?_⟩, fun _ _ _ => rfl, ?_⟩
      · rw [e1]; simpa [ux_] using h1
      · intro i i0 i1; rw [e1]; simpa [ux_] using h4 i i0 i1
      · intro i i0 i1; rw [e1]; simpa [ux_] using h5 i i0 i1
      · intro k i hk; rw [e1]; unfold ux_; rw [if_neg (by omega)]
    unfold w_X12_end
    intro R1 e1
    have e3 : R1 0 3 = C 1 1 := by rw [e1, h1]; simp [ux_]
    refine ⟨fun z => hq R1 e1, fun z => ⟨fun z2 => hq R1 e1, fun z2 v ev gv => ⟨by unfold ri_ at *; omega, fun z3 => by omega, fun z3 => hq R1 e1⟩⟩⟩
  unfold w_X11_end w_X9_takeReady
  refine ⟨fun z _ => hbad (Or.inl z), fun z => ⟨fun z2 _ => hbad (Or.inr (Or.inl z2)), fun z2 v3 e3 g3 => ⟨by unfold ri_ at *; omega, fun z4 v6 e6 g6 => ⟨by omega, by omega, by omega, by omega, fun M7 e7 v8 e8 g8 => ⟨?_, fun M10 e10 => ?_⟩⟩, fun z4 _ => hbad (by omega)⟩⟩⟩
  · have : M7 1 1 = C 1 1 := by rw [e7]; simp [jcp]
    unfold ri_ at *; omega
  · have e71 : M7 1 1 = C 1 1 := by rw [e7]; simp [jcp]
    refine p_fillI (by omega) ?_
    intro v13 e13 g13 _
    have e101 : v13 = C 1 1 + n := by rw [e13]; simp [filled]; rw [e10]; simp [ux_]; omega
    unfold w_X12_end
    intro R1 e1
    have r3 : R1 0 3 = C 1 1 := by rw [e1, h1]; simp [ux_]
    refine ⟨fun z => by omega, fun _ => ⟨fun z => by omega, fun _ v ev gv => ⟨by unfold ri_ at *; omega, fun z5 => ?_, fun z5 => by omega⟩⟩⟩
    refine p_R_end31 (by omega) (by omega) (by omega) (by omega) (fun i i0 i1 => by rw [e1]; simpa [ux_] using hb i i0 i1) ?_
    refine p_R_end71 ?_ ?_
    · simp only [ux_]; simp; unfold ri_; omega
    have hR3 : ∀ k i, filled (ux_ (jcp R1 2 1 0 (R1 0 3) n) 0 3 (R1 0 3 + n)) 2 0 20 0 k i = if k = 2 ∧ 0 ≤ i ∧ i < 20 then 0 else if k = 0 ∧ i = 3 then C 1 1 + n else if k = 1 ∧ C 1 1 ≤ i ∧ i < C 1 1 + n then R 2 (i - C 1 1) else if k = 0 ∧ i = 0 then 0 else R k i := by
      intro k i
      rw [r3, e1]
      exact x_endR R (C 1 1) n (by omega) k i
    have hC3 : ∀ k i, filled M10 3 0 ((20 : Nat) : Int) 0 k i = if k = 3 ∧ 0 ≤ i ∧ i < 20 then 0 else if k = 1 ∧ i = 1 then C 1 1 + n else if k = 2 ∧ C 1 1 ≤ i ∧ i < C 1 1 + n then C 3 (i - C 1 1) else C k i := by
      intro k i
      rw [e10, show v8 + n = C 1 1 + n from by omega, e7, show v6 = C 1 1 from e6]
      exact x_endC C (C 1 1) n (by omega) k i
    refine ⟨?_, ⟨?_, ?_, ?_, ?_, ?_⟩, ?_, ?_⟩
    · rw [e101]; simp [ux_]; omega
    · rw [hC3, hR3]; simp
    · rw [hC3]; simp; omega
    · rw [hC3]; simp; omega
    · intro i i0 i1
      rw [hC3] at i1
      simp at i1
      have eC := hC3 2 i
      have eR := hR3 1 i
      simp at eC eR
      rw [show ((20 : Nat) : Int) = 20 from rfl, eC, eR]
      by_cases z : C 1 1 ≤ i
      · rw [if_pos (by omega), if_pos (by omega)]; exact h5 (i - C 1 1) (by omega) (by omega)
      · rw [if_neg (by omega), if_neg (by omega)]; exact h4 i i0 (by omega)
    · intro i i0 i1
      rw [hC3, hR3, if_pos (by omega), if_pos (by omega)]; rfl
    · intro k i hk
      rw [hC3, if_neg (by omega), if_neg (by omega), if_neg (by omega)]
    · intro k i hk
      rw [hR3, if_neg (by omega), if_neg (by omega), if_neg (by omega), if_neg (by omega)]
theorem flip_bits : ∀ v : Fin 256, ∀ b : Fin 8, (ji2b (jxor ((v.val : Int) - 128) (jshl 1 (b.val : Int)))) % 256 = jxor (((v.val : Int) - 128) % 256) (jshl 1 (b.val : Int)) := by decide +kernel
theorem flip_bit {v b : Int} (h0 : -128 ≤ v) (h1 : v ≤ 127) (b0 : 0 ≤ b) (b1 : b ≤ 7) : (ji2b (jxor v (jshl 1 b))) % 256 = jxor (v % 256) (jshl 1 b) := by
  have := flip_bits ⟨(v + 128).toNat, by omega⟩ ⟨b.toNat, by omega⟩
  simp only at this
  rw [show (((v + 128).toNat : Nat) : Int) - 128 = v from by omega, show ((b.toNat : Nat) : Int) = b from by omega] at this
  exact this
set_option maxHeartbeats 400000 in
theorem t_flip {C R : MM} {p b : Int} (h : Rtape C R) : w_X11_flip (fun r C' => w_X12_flip (fun r' R' => r = r' ∧ Rtape C' R' ∧ (∀ k i, k ≠ 2 → C' k i = C k i) ∧ (∀ k i, (k ≠ 1 ∧ ¬ (k = 0 ∧ i = 0)) → R' k i = R k i)) p b R) p b C := by
  obtain ⟨h1, h2, h3, h4, h5⟩ := h
  have hq : ∀ (r : Int) (R1 : MM), R1 = ux_ R 0 0 0 → r = r → (r = r ∧ Rtape C R1 ∧ (∀ k i, k ≠ 2 → C k i = C k i) ∧ (∀ k i, (k ≠ 1 ∧ ¬ (k = 0 ∧ i = 0)) → R1 k i = R k i)) := by
    intro r R1 e1 _
    refine ⟨rfl, ⟨?_, h2, h3, ?_, ?_⟩, fun _ _ _ => rfl, ?_⟩
    · rw [e1]; simpa [ux_] using h1
    · intro i i0 i1; rw [e1]; simpa [ux_] using h4 i i0 i1
    · intro i i0 i1; rw [e1]; simpa [ux_] using h5 i i0 i1
    · intro k i hk; rw [e1]; unfold ux_; rw [if_neg (by omega)]
  have hbad : (p < 0 ∨ C 1 1 ≤ p ∨ b < 0 ∨ 7 < b) → w_X12_flip (fun r' R' => 0 = r' ∧ Rtape C R' ∧ (∀ k i, k ≠ 2 → C k i = C k i) ∧ (∀ k i, (k ≠ 1 ∧ ¬ (k = 0 ∧ i = 0)) → R' k i = R k i)) p b R := by
    intro hn
    unfold w_X12_flip
    intro R1 e1
    have e3 : R1 0 3 = C 1 1 := by rw [e1, h1]; simp [ux_]
    exact ⟨fun z => hq 0 R1 e1 rfl, fun z v ev gv => ⟨fun z2 => hq 0 R1 e1 rfl, fun z2 => ⟨fun z3 => hq 0 R1 e1 rfl, fun z3 => ⟨fun z4 => by omega, fun z4 => hq 0 R1 e1 rfl⟩⟩⟩⟩
  unfold w_X11_flip
  refine ⟨fun z => hbad (by omega), fun z v ev gv => ⟨fun z2 => hbad (by omega), fun z2 => ⟨fun z3 => hbad (by omega), fun z3 => ⟨fun z4 => ⟨by omega, by omega, fun v6 e6 g6 => ⟨by omega, by omega, fun C1 e7 => ?_⟩⟩, fun z4 => hbad (by omega)⟩⟩⟩⟩
  unfold w_X12_flip
  intro R1 e1
  have e3 : R1 0 3 = C 1 1 := by rw [e1, h1]; simp [ux_]
  refine ⟨fun z => by omega, fun z v ev gv => ⟨fun z2 => by omega, fun z2 => ⟨fun z3 => by omega, fun z3 => ⟨fun z4 => ⟨by omega, by omega, fun v7 e77 g7 => ⟨by omega, by omega, fun R2 e8 => ?_⟩⟩, fun z4 => by omega⟩⟩⟩⟩
  have ev7 : v7 = R 1 p := by rw [e77, e1]; simp [ux_]
  have ev6 : v6 = v7 % 256 := by rw [e6, ev7]; exact h4 p (by omega) (by omega)
  refine ⟨rfl, ⟨?_, ?_, ?_, ?_, ?_⟩, ?_, ?_⟩
  · rw [e7, e8, e1]; simpa [ux_] using h1
  · rw [e7]; simpa [ux_] using h2
  · rw [e7]; simpa [ux_] using h3
  · intro i i0 i1
    rw [e7] at i1
    simp [ux_] at i1
    by_cases z : i = p
    · subst z
      rw [e7, e8, ux_s, ux_s, flip_bit g7.1 g7.2 (by omega) (by omega), ev6]
    · rw [e7, e8, ux_i _ _ _ z, ux_i _ _ _ z, e1, ux_c _ _ _ _ (by decide)]; exact h4 i i0 i1
  · intro i i0 i1
    rw [e7, e8, ux_c _ _ _ _ (by decide), ux_c _ _ _ _ (by decide), e1, ux_c _ _ _ _ (by decide)]; exact h5 i i0 i1
  · intro k i hk; rw [e7, ux_c _ _ _ _ hk]
  · intro k i hk; rw [e8, ux_c _ _ _ _ hk.1, e1]; unfold ux_; rw [if_neg (by omega)]
