/-! the tape's bytes stay bytes -/
def BB (R : MM) : Prop := (∀ i, -128 ≤ R 1 i ∧ R 1 i ≤ 127) ∧ ∀ i, -128 ≤ R 2 i ∧ R 2 i ≤ 127
theorem BB_e {R R' : MM} (h : BB R) (e1 : R' 1 = R 1) (e2 : R' 2 = R 2) : BB R' := by unfold BB at h ⊢; rw [e1, e2]; exact h
theorem bdU {M : MM} (h : ∀ i, -128 ≤ M 2 i ∧ M 2 i ≤ 127) (j x i : Int) : -128 ≤ ux_ M 2 j (ji2b x) 2 i ∧ ux_ M 2 j (ji2b x) 2 i ≤ 127 := by
  rw [ux_v]
  split
  · exact ji2b_b x
  · exact h i
set_option maxHeartbeats 1000000 in
theorem p_R_feed2 {Q : Int → MM → Prop} {a b c d e : Int} {R : MM} (b2 : ∀ i, -128 ≤ R 2 i ∧ R 2 i ≤ 127) (h : ∀ R', (∀ k i, (k ≠ 2 ∧ ¬ (k = 0 ∧ i = 0)) → R' k i = R k i) → R' 0 0 = 0 → (∀ k, 0 ≤ k → k < 4 → R' 2 k = ji2b (jshr a (24 - 8 * k)) ∧ R' 2 (4 + k) = ji2b (jshr b (24 - 8 * k)) ∧ R' 2 (8 + k) = ji2b (jshr c (24 - 8 * k)) ∧ R' 2 (12 + k) = ji2b (jshr d (24 - 8 * k)) ∧ R' 2 (16 + k) = ji2b (jshr e (24 - 8 * k))) → (∀ i, -128 ≤ R' 2 i ∧ R' 2 i ≤ 127) → Q 0 R') : w_X12_feed Q a b c d e R := by
  unfold w_X12_feed
  intro R0 e0
  have H : ∀ (n : Nat) (k : Int) (R1 : MM), 0 ≤ k → k ≤ 4 → 4 - k < n → (∀ c i, c ≠ 2 → R1 c i = R0 c i) → (∀ i, -128 ≤ R1 2 i ∧ R1 2 i ≤ 127) → (∀ j, 0 ≤ j → j < k → R1 2 j = ji2b (jshr a (24 - 8 * j)) ∧ R1 2 (4 + j) = ji2b (jshr b (24 - 8 * j)) ∧ R1 2 (8 + j) = ji2b (jshr c (24 - 8 * j)) ∧ R1 2 (12 + j) = ji2b (jshr d (24 - 8 * j)) ∧ R1 2 (16 + j) = ji2b (jshr e (24 - 8 * j))) → jit (fun _ _ _ _ _ _ _ => False) (wb_X12_feed_b8 Q) n a b c d e k R1 := by
    intro n
    induction n with
    | zero => intro k C1 h0 h4 hn hf hB hv; omega
    | succ n ih =>
      intro k R1 h0 h4 hn hf hB hv
      show wb_X12_feed_b8 Q (jit (fun _ _ _ _ _ _ _ => False) (wb_X12_feed_b8 Q) n) a b c d e k R1
      unfold wb_X12_feed_b8
      refine ⟨fun z => ?_, fun z => ?_⟩
      · have e4 : k = 4 := by omega
        subst e4
        refine h R1 ?_ ?_ hv hB
        · intro c i hc
          rw [hf c i hc.1, e0]; unfold ux_; rw [if_neg (by omega)]
        · rw [hf 0 0 (by omega), e0]; simp [ux_]
      · refine ⟨by unfold ri_; omega, by unfold ri_; omega, by omega, by omega, fun R2 e2 => ⟨by unfold ri_; omega, by omega, by omega, fun R3 e3 => ⟨by unfold ri_; omega, by omega, by omega, fun R4 e4 => ⟨by unfold ri_; omega, by omega, by omega, fun R5 e5 => ⟨by unfold ri_; omega, by omega, by omega, fun R6 e6 => ⟨by unfold ri_; omega, ih (k + 1) R6 (by omega) (by omega) (by omega) ?_ (fun i => by rw [e6]; exact bdU (fun i => by rw [e5]; exact bdU (fun i => by rw [e4]; exact bdU (fun i => by rw [e3]; exact bdU (fun i => by rw [e2]; exact bdU hB _ _ i) _ _ i) _ _ i) _ _ i) _ _ i) ?_⟩⟩⟩⟩⟩⟩
        · intro c i hc
          subst e6 e5 e4 e3 e2
          simp only [ux_, hc, false_and, if_false]
          exact hf c i hc
        · intro j j0 j1
          subst e6 e5 e4 e3 e2
          have hj := hv j j0
          simp only [ux_, true_and]
          refine ⟨?_, ?_, ?_, ?_, ?_⟩ <;> grind
  exact ⟨5, H 5 0 R0 (by omega) (by omega) (by omega) (fun _ _ _ => rfl) (fun i => by rw [e0, ux_g _ _ _ (by decide)]; exact b2 i) (fun j j0 j1 => by omega)⟩
set_option maxHeartbeats 1000000 in
theorem u_feed {C R : MM} {a b c d e : Int} (ga : ri_ a) (gb : ri_ b) (gc : ri_ c) (gd : ri_ d) (ge : ri_ e) (h : Rtape C R) (b2 : ∀ i, -128 ≤ R 2 i ∧ R 2 i ≤ 127) : w_X11_feed (fun r C' => w_X12_feed (fun r' R' => r = r' ∧ Rtape C' R' ∧ (∀ k i, k ≠ 3 → C' k i = C k i) ∧ (∀ k i, (k ≠ 2 ∧ ¬ (k = 0 ∧ i = 0)) → R' k i = R k i) ∧ (∀ i, -128 ≤ R' 2 i ∧ R' 2 i ≤ 127)) a b c d e R) a b c d e C := by
  obtain ⟨h1, h2, h3, h4, h5⟩ := h
  unfold w_X11_feed
  refine p_putReady (by omega) (by omega) fun C1 f1 v1 => ?_
  refine p_putReady (by omega) (by omega) fun C2 f2 v2 => ?_
  refine p_putReady (by omega) (by omega) fun C3 f3 v3 => ?_
  refine p_putReady (by omega) (by omega) fun C4 f4 v4 => ?_
  refine p_putReady (by omega) (by omega) fun C5 f5 v5 => ?_
  refine p_R_feed2 b2 fun R' g1 g2 g3 g4 => ?_
  have hC : ∀ k i, k ≠ 3 → C5 k i = C k i := fun k i hk => by
    rw [f5 k i (Or.inl hk), f4 k i (Or.inl hk), f3 k i (Or.inl hk), f2 k i (Or.inl hk), f1 k i (Or.inl hk)]
  refine ⟨rfl, ⟨?_, ?_, ?_, ?_, ?_⟩, hC, g1, g4⟩
  · rw [hC 1 1 (by decide), g1 0 3 (by omega)]; exact h1
  · rw [hC 1 1 (by decide)]; exact h2
  · rw [hC 1 1 (by decide)]; exact h3
  · intro i i0 i1
    rw [hC 1 1 (by decide)] at i1
    rw [hC 2 i (by decide), g1 1 i (by omega)]; exact h4 i i0 i1
  · intro i i0 i1
    have hk : i < 4 ∨ (4 ≤ i ∧ i < 8) ∨ (8 ≤ i ∧ i < 12) ∨ (12 ≤ i ∧ i < 16) ∨ 16 ≤ i := by omega
    rcases hk with k | k | k | k | k
    · have e := v1 i i0 k
      rw [show (0 : Int) + i = i from by omega] at e
      rw [f5 3 i (by omega), f4 3 i (by omega), f3 3 i (by omega), f2 3 i (by omega), e, (g3 i i0 k).1]
      exact rd_byte ga i i0 k
    · have e := v2 (i - 4) (by omega) (by omega)
      rw [show (4 : Int) + (i - 4) = i from by omega] at e
      have g := (g3 (i - 4) (by omega) (by omega)).2.1
      rw [show (4 : Int) + (i - 4) = i from by omega] at g
      rw [f5 3 i (by omega), f4 3 i (by omega), f3 3 i (by omega), e, g]
      exact rd_byte gb (i - 4) (by omega) (by omega)
    · have e := v3 (i - 8) (by omega) (by omega)
      rw [show (8 : Int) + (i - 8) = i from by omega] at e
      have g := (g3 (i - 8) (by omega) (by omega)).2.2.1
      rw [show (8 : Int) + (i - 8) = i from by omega] at g
      rw [f5 3 i (by omega), f4 3 i (by omega), e, g]
      exact rd_byte gc (i - 8) (by omega) (by omega)
    · have e := v4 (i - 12) (by omega) (by omega)
      rw [show (12 : Int) + (i - 12) = i from by omega] at e
      have g := (g3 (i - 12) (by omega) (by omega)).2.2.2.1
      rw [show (12 : Int) + (i - 12) = i from by omega] at g
      rw [f5 3 i (by omega), e, g]
      exact rd_byte gd (i - 12) (by omega) (by omega)
    · have e := v5 (i - 16) (by omega) (by omega)
      rw [show (16 : Int) + (i - 16) = i from by omega] at e
      have g := (g3 (i - 16) (by omega) (by omega)).2.2.2.2
      rw [show (16 : Int) + (i - 16) = i from by omega] at g
      rw [e, g]
      exact rd_byte ge (i - 16) (by omega) (by omega)
set_option maxHeartbeats 400000 in
theorem u_end {C R : MM} {n : Int} (gn : ri_ n) (h : Rtape C R) (bb : BB R) : w_X11_end (fun r C' => w_X12_end (fun r' R' => r = r' ∧ Rtape C' R' ∧ (∀ k i, (k ≠ 2 ∧ k ≠ 3 ∧ ¬ (k = 1 ∧ i = 1)) → C' k i = C k i) ∧ (∀ k i, (k ≠ 1 ∧ k ≠ 2 ∧ ¬ (k = 0 ∧ (i = 0 ∨ i = 3))) → R' k i = R k i) ∧ BB R') n R) n C := by
  obtain ⟨h1, h2, h3, h4, h5⟩ := h
  have hb : ∀ i, 0 ≤ i → i < 20 → -128 ≤ R 2 i ∧ R 2 i ≤ 127 := fun i _ _ => bb.2 i
  have hbad : (n < 0 ∨ 20 < n ∨ 4000 < C 1 1 + n) → w_X12_end (fun r' R' => -1 = r' ∧ Rtape C R' ∧ (∀ k i, (k ≠ 2 ∧ k ≠ 3 ∧ ¬ (k = 1 ∧ i = 1)) → C k i = C k i) ∧ (∀ k i, (k ≠ 1 ∧ k ≠ 2 ∧ ¬ (k = 0 ∧ (i = 0 ∨ i = 3))) → R' k i = R k i) ∧ BB R') n R := by
    intro hn
    have hq : ∀ R1, R1 = ux_ R 0 0 0 → (-1 = -1 ∧ Rtape C R1 ∧ (∀ k i, (k ≠ 2 ∧ k ≠ 3 ∧ ¬ (k = 1 ∧ i = 1)) → C k i = C k i) ∧ (∀ k i, (k ≠ 1 ∧ k ≠ 2 ∧ ¬ (k = 0 ∧ (i = 0 ∨ i = 3))) → R1 k i = R k i) ∧ BB R1) := by
      intro R1 e1
      refine ⟨rfl, ⟨?_, h2, h3, ?_, ?_⟩, fun _ _ _ => rfl, ?_, BB_e bb (by rw [e1, ux_g _ _ _ (by decide)]) (by rw [e1, ux_g _ _ _ (by decide)])⟩
      · rw [e1]; simpa [ux_] using h1
      · intro i i0 i1; rw [e1]; simpa [ux_] using h4 i i0 i1
      · intro i i0 i1; rw [e1]; simpa [ux_] using h5 i i0 i1
      · intro k i hk; rw [e1]; unfold ux_; rw [if_neg (by omega)]
    unfold w_X12_end
    intro R1 e1
    have e3 : R1 0 3 = C 1 1 := by rw [e1, h1]; simp [ux_]
    refine ⟨fun z => hq R1 e1, fun z => ⟨fun z2 => hq R1 e1, fun z2 v ev gv => ⟨by unfold ri_ at *; omega, fun z3 => by omega, fun z3 => hq R1 e1⟩⟩⟩
  unfold w_X11_end w_X9_takeReady
  refine ⟨fun z _ => hbad (Or.inl z), fun z => ⟨fun z2 _ => hbad (Or.inr (Or.inl z2)), fun z2 v3 e3 g3 => ⟨by unfold ri_ at *; omega, fun z4 v6 e6 g6 => ⟨by omega, by omega, by omega, by omega, fun M7 e7 v8 e8 g8 => ⟨?_, fun M10 e10 => ?_⟩⟩, fun z4 _ => hbad (by omega)⟩⟩⟩
  · have : M7 1 1 = C 1 1 := by rw [e7]; simp [jcp]
    unfold ri_ at *; omega
  · have e71 : M7 1 1 = C 1 1 := by rw [e7]; simp [jcp]
    refine p_fillI (by omega) ?_
    intro v13 e13 g13 _
    have e101 : v13 = C 1 1 + n := by rw [e13]; simp [filled]; rw [e10]; simp [ux_]; omega
    unfold w_X12_end
    intro R1 e1
    have r3 : R1 0 3 = C 1 1 := by rw [e1, h1]; simp [ux_]
    refine ⟨fun z => by omega, fun _ => ⟨fun z => by omega, fun _ v ev gv => ⟨by unfold ri_ at *; omega, fun z5 => ?_, fun z5 => by omega⟩⟩⟩
    refine p_R_end31 (by omega) (by omega) (by omega) (by omega) (fun i i0 i1 => by rw [e1]; simpa [ux_] using hb i i0 i1) ?_
    refine p_R_end71 ?_ ?_
    · simp only [ux_]; simp; unfold ri_; omega
    have hR3 : ∀ k i, filled (ux_ (jcp R1 2 1 0 (R1 0 3) n) 0 3 (R1 0 3 + n)) 2 0 20 0 k i = if k = 2 ∧ 0 ≤ i ∧ i < 20 then 0 else if k = 0 ∧ i = 3 then C 1 1 + n else if k = 1 ∧ C 1 1 ≤ i ∧ i < C 1 1 + n then R 2 (i - C 1 1) else if k = 0 ∧ i = 0 then 0 else R k i := by
      intro k i
      rw [r3, e1]
      exact x_endR R (C 1 1) n (by omega) k i
    have hC3 : ∀ k i, filled M10 3 0 ((20 : Nat) : Int) 0 k i = if k = 3 ∧ 0 ≤ i ∧ i < 20 then 0 else if k = 1 ∧ i = 1 then C 1 1 + n else if k = 2 ∧ C 1 1 ≤ i ∧ i < C 1 1 + n then C 3 (i - C 1 1) else C k i := by
      intro k i
      rw [e10, show v8 + n = C 1 1 + n from by omega, e7, show v6 = C 1 1 from e6]
      exact x_endC C (C 1 1) n (by omega) k i
    refine ⟨?_, ⟨?_, ?_, ?_, ?_, ?_⟩, ?_, ?_, fun i => ?_, fun i => ?_⟩
    · rw [e101]; simp [ux_]; omega
    · rw [hC3, hR3]; simp
    · rw [hC3]; simp; omega
    · rw [hC3]; simp; omega
    · intro i i0 i1
      rw [hC3] at i1
      simp at i1
      have eC := hC3 2 i
      have eR := hR3 1 i
      simp at eC eR
      rw [show ((20 : Nat) : Int) = 20 from rfl, eC, eR]
      by_cases z : C 1 1 ≤ i
      · rw [if_pos (by omega), if_pos (by omega)]; exact h5 (i - C 1 1) (by omega) (by omega)
      · rw [if_neg (by omega), if_neg (by omega)]; exact h4 i i0 (by omega)
    · intro i i0 i1
      rw [hC3, hR3, if_pos (by omega), if_pos (by omega)]; rfl
    · intro k i hk
      rw [hC3, if_neg (by omega), if_neg (by omega), if_neg (by omega)]
    · intro k i hk
      rw [hR3, if_neg (by omega), if_neg (by omega), if_neg (by omega), if_neg (by omega)]
    · have := hR3 1 i
      simp at this
      rw [this]
      split
      · exact bb.2 _
      · exact bb.1 _
    · have := hR3 2 i
      simp at this
      rw [this]
      split
      · omega
      · exact bb.2 _
set_option maxHeartbeats 400000 in
theorem u_flip {C R : MM} {p b : Int} (h : Rtape C R) (bb : BB R) : w_X11_flip (fun r C' => w_X12_flip (fun r' R' => r = r' ∧ Rtape C' R' ∧ (∀ k i, k ≠ 2 → C' k i = C k i) ∧ (∀ k i, (k ≠ 1 ∧ ¬ (k = 0 ∧ i = 0)) → R' k i = R k i) ∧ BB R') p b R) p b C := by
  obtain ⟨h1, h2, h3, h4, h5⟩ := h
  have hq : ∀ (r : Int) (R1 : MM), R1 = ux_ R 0 0 0 → r = r → (r = r ∧ Rtape C R1 ∧ (∀ k i, k ≠ 2 → C k i = C k i) ∧ (∀ k i, (k ≠ 1 ∧ ¬ (k = 0 ∧ i = 0)) → R1 k i = R k i) ∧ BB R1) := by
    intro r R1 e1 _
    refine ⟨rfl, ⟨?_, h2, h3, ?_, ?_⟩, fun _ _ _ => rfl, ?_, BB_e bb (by rw [e1, ux_g _ _ _ (by decide)]) (by rw [e1, ux_g _ _ _ (by decide)])⟩
    · rw [e1]; simpa [ux_] using h1
    · intro i i0 i1; rw [e1]; simpa [ux_] using h4 i i0 i1
    · intro i i0 i1; rw [e1]; simpa [ux_] using h5 i i0 i1
    · intro k i hk; rw [e1]; unfold ux_; rw [if_neg (by omega)]
  have hbad : (p < 0 ∨ C 1 1 ≤ p ∨ b < 0 ∨ 7 < b) → w_X12_flip (fun r' R' => 0 = r' ∧ Rtape C R' ∧ (∀ k i, k ≠ 2 → C k i = C k i) ∧ (∀ k i, (k ≠ 1 ∧ ¬ (k = 0 ∧ i = 0)) → R' k i = R k i) ∧ BB R') p b R := by
    intro hn
    unfold w_X12_flip
    intro R1 e1
    have e3 : R1 0 3 = C 1 1 := by rw [e1, h1]; simp [ux_]
    exact ⟨fun z => hq 0 R1 e1 rfl, fun z v ev gv => ⟨fun z2 => hq 0 R1 e1 rfl, fun z2 => ⟨fun z3 => hq 0 R1 e1 rfl, fun z3 => ⟨fun z4 => by omega, fun z4 => hq 0 R1 e1 rfl⟩⟩⟩⟩
  unfold w_X11_flip
  refine ⟨fun z => hbad (by omega), fun z v ev gv => ⟨fun z2 => hbad (by omega), fun z2 => ⟨fun z3 => hbad (by omega), fun z3 => ⟨fun z4 => ⟨by omega, by omega, fun v6 e6 g6 => ⟨by omega, by omega, fun C1 e7 => ?_⟩⟩, fun z4 => hbad (by omega)⟩⟩⟩⟩
  unfold w_X12_flip
  intro R1 e1
  have e3 : R1 0 3 = C 1 1 := by rw [e1, h1]; simp [ux_]
  refine ⟨fun z => by omega, fun z v ev gv => ⟨fun z2 => by omega, fun z2 => ⟨fun z3 => by omega, fun z3 => ⟨fun z4 => ⟨by omega, by omega, fun v7 e77 g7 => ⟨by omega, by omega, fun R2 e8 => ?_⟩⟩, fun z4 => by omega⟩⟩⟩⟩
  have ev7 : v7 = R 1 p := by rw [e77, e1]; simp [ux_]
  have ev6 : v6 = v7 % 256 := by rw [e6, ev7]; exact h4 p (by omega) (by omega)
  refine ⟨rfl, ⟨?_, ?_, ?_, ?_, ?_⟩, ?_, ?_, fun i => ?_, fun i => ?_⟩
  · rw [e7, e8, e1]; simpa [ux_] using h1
  · rw [e7]; simpa [ux_] using h2
  · rw [e7]; simpa [ux_] using h3
  · intro i i0 i1
    rw [e7] at i1
    simp [ux_] at i1
    by_cases z : i = p
    · subst z
      rw [e7, e8, ux_s, ux_s, flip_bit g7.1 g7.2 (by omega) (by omega), ev6]
    · rw [e7, e8, ux_i _ _ _ z, ux_i _ _ _ z, e1, ux_c _ _ _ _ (by decide)]; exact h4 i i0 i1
  · intro i i0 i1
    rw [e7, e8, ux_c _ _ _ _ (by decide), ux_c _ _ _ _ (by decide), e1, ux_c _ _ _ _ (by decide)]; exact h5 i i0 i1
  · intro k i hk; rw [e7, ux_c _ _ _ _ hk]
  · intro k i hk; rw [e8, ux_c _ _ _ _ hk.1, e1]; unfold ux_; rw [if_neg (by omega)]
  · rw [e8, ux_v]
    split
    · exact ji2b_b _
    · rw [e1, ux_g _ _ _ (by decide)]; exact bb.1 i
  · rw [e8, ux_g _ _ _ (by decide), e1, ux_g _ _ _ (by decide)]; exact bb.2 i
