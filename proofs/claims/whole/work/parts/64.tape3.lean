/-! feed, end, flip -/
set_option maxHeartbeats 1000000 in
theorem t_feed {C R : MM} {a b c d e : Int} (ga : ri_ a) (gb : ri_ b) (gc : ri_ c) (gd : ri_ d) (ge : ri_ e) (h : Rtape C R) : w_X11_feed (fun r C' => w_X12_feed (fun r' R' => r = r' ∧ Rtape C' R' ∧ (∀ k i, k ≠ 3 → C' k i = C k i) ∧ (∀ k i, (k ≠ 2 ∧ ¬ (k = 0 ∧ i = 0)) → R' k i = R k i)) a b c d e R) a b c d e C := by
  obtain ⟨h1, h2, h3, h4, h5⟩ := h
  unfold w_X11_feed
  refine p_putReady (by omega) (by omega) fun C1 f1 v1 => ?_
  refine p_putReady (by omega) (by omega) fun C2 f2 v2 => ?_
  refine p_putReady (by omega) (by omega) fun C3 f3 v3 => ?_
  refine p_putReady (by omega) (by omega) fun C4 f4 v4 => ?_
  refine p_putReady (by omega) (by omega) fun C5 f5 v5 => ?_
  refine p_R_feed fun R' g1 g2 g3 => ?_
  have hC : ∀ k i, k ≠ 3 → C5 k i = C k i := fun k i hk => by
    rw [f5 k i (Or.inl hk), f4 k i (Or.inl hk), f3 k i (Or.inl hk), f2 k i (Or.inl hk), f1 k i (Or.inl hk)]
  refine ⟨rfl, ⟨?_, ?_, ?_, ?_, ?_⟩, hC, g1⟩
  · rw [hC 1 1 (by decide), g1 0 3 (by omega)]; exact h1
  · rw [hC 1 1 (by decide)]; exact h2
  · rw [hC 1 1 (by decide)]; exact h3
  · intro i i0 i1
    rw [hC 1 1 (by decide)] at i1
    rw [hC 2 i (by decide), g1 1 i (by omega)]; exact h4 i i0 i1
  · intro i i0 i1
    have hk : i < 4 ∨ (4 ≤ i ∧ i < 8) ∨ (8 ≤ i ∧ i < 12) ∨ (12 ≤ i ∧ i < 16) ∨ 16 ≤ i := by omega
    rcases hk with k | k | k | k | k
    · have e := v1 i i0 k
      rw [show (0 : Int) + i = i from by omega] at e
      rw [f5 3 i (by omega), f4 3 i (by omega), f3 3 i (by omega), f2 3 i (by omega), e, (g3 i i0 k).1]
      exact rd_byte ga i i0 k
    · have e := v2 (i - 4) (by omega) (by omega)
      rw [show (4 : Int) + (i - 4) = i from by omega] at e
      have g := (g3 (i - 4) (by omega) (by omega)).2.1
      rw [show (4 : Int) + (i - 4) = i from by omega] at g
      rw [f5 3 i (by omega), f4 3 i (by omega), f3 3 i (by omega), e, g]
      exact rd_byte gb (i - 4) (by omega) (by omega)
    · have e := v3 (i - 8) (by omega) (by omega)
      rw [show (8 : Int) + (i - 8) = i from by omega] at e
      have g := (g3 (i - 8) (by omega) (by omega)).2.2.1
      rw [show (8 : Int) + (i - 8) = i from by omega] at g
      rw [f5 3 i (by omega), f4 3 i (by omega), e, g]
      exact rd_byte gc (i - 8) (by omega) (by omega)
    · have e := v4 (i - 12) (by omega) (by omega)
      rw [show (12 : Int) + (i - 12) = i from by omega] at e
      have g := (g3 (i - 12) (by omega) (by omega)).2.2.2.1
      rw [show (12 : Int) + (i - 12) = i from by omega] at g
      rw [f5 3 i (by omega), e, g]
      exact rd_byte gd (i - 12) (by omega) (by omega)
    · have e := v5 (i - 16) (by omega) (by omega)
      rw [show (16 : Int) + (i - 16) = i from by omega] at e
      have g := (g3 (i - 16) (by omega) (by omega)).2.2.2.2
      rw [show (16 : Int) + (i - 16) = i from by omega] at g
      rw [e, g]
      exact rd_byte ge (i - 16) (by omega) (by omega)
set_option maxHeartbeats 1000000 in
theorem p_R_end71 {Q : Int → MM → Prop} {R : MM} (hs : ri_ (R 0 3)) (h : Q (R 0 3) (filled R 2 0 20 0)) : w_X12_end_b71 Q 0 R := by
  have H : ∀ (m : Nat) (k : Int) (M1 : MM), 0 ≤ k → k ≤ 20 → 20 - k < m → M1 = filled R 2 0 k 0 → jit (fun _ _ => False) (wb_X12_end_b71 Q) m k M1 := by
    intro m
    induction m with
    | zero => intro k M1 h0 h4 hn hf; omega
    | succ m ih =>
      intro k M1 h0 h4 hm hf
      show wb_X12_end_b71 Q (jit (fun _ _ => False) (wb_X12_end_b71 Q) m) k M1
      unfold wb_X12_end_b71
      refine ⟨fun z v ev gv => ?_, fun z => ⟨by omega, by omega, fun M2 e2 => ⟨by unfold ri_; omega, ih (k + 1) M2 (by omega) (by omega) (by omega) ?_⟩⟩⟩
      · have e4 : k = 20 := by omega
        rw [hf, e4] at ev ⊢
        rw [ev, show filled R 2 0 20 0 0 3 = R 0 3 from by simp [filled]]
        exact h
      · rw [e2, hf]
        funext c i
        unfold ux_ filled
        grind
  refine ⟨21, H 21 0 R (by omega) (by omega) (by omega) ?_⟩
  funext c i
  unfold filled
  rw [if_neg (by omega)]
set_option maxHeartbeats 1000000 in
theorem p_R_end31 {Q : Int → MM → Prop} {R : MM} {n : Int} (h0 : 0 ≤ n) (h1 : n ≤ 20) (h2 : 0 ≤ R 0 3) (h3 : R 0 3 + n ≤ 4000) (hb : ∀ i, 0 ≤ i → i < 20 → -128 ≤ R 2 i ∧ R 2 i ≤ 127) (h : w_X12_end_b71 Q 0 (ux_ (jcp R 2 1 0 (R 0 3) n) 0 3 (R 0 3 + n))) : w_X12_end_b31 Q n 0 R := by
  have H : ∀ (m : Nat) (k : Int) (M1 : MM), 0 ≤ k → k ≤ n → n - k < m → M1 = jcp R 2 1 0 (R 0 3) k → jit (fun _ _ _ => False) (wb_X12_end_b31 Q) m n k M1 := by
    intro m
    induction m with
    | zero => intro k M1 h0 h4 hn hf; omega
    | succ m ih =>
      intro k M1 k0 k1 hm hf
      have e3 : M1 0 3 = R 0 3 := by rw [hf]; simp [jcp]
      have e2 : M1 2 k = R 2 k := by rw [hf]; simp [jcp]
      show wb_X12_end_b31 Q (jit (fun _ _ _ => False) (wb_X12_end_b31 Q) m) n k M1
      unfold wb_X12_end_b31
      refine ⟨fun z v ev gv => ⟨by unfold ri_ at *; omega, fun M2 e5 => ?_⟩, fun z v ev gv => ⟨by unfold ri_ at *; omega, by omega, by omega, fun v7 e7 g7 => ⟨by omega, by omega, fun M2 e8 => ⟨by unfold ri_; omega, ih (k + 1) M2 (by omega) (by omega) (by omega) ?_⟩⟩⟩⟩
      · have e4 : k = n := by omega
        rw [e5, ev, e3, hf, e4]; exact h
      · rw [e8, e7, ev, e3, e2, hf]
        funext c i
        unfold ux_ jcp
        grind
  refine ⟨21, H 21 0 R (by omega) (by omega) (by omega) ?_⟩
  funext c i
  unfold jcp
  rw [if_neg (by omega)]
