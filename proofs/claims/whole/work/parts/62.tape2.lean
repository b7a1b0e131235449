/-! loops of the tape -/
set_option maxHeartbeats 1000000 in
theorem p_putReady {Q : Int → MM → Prop} {a x : Int} {C : MM} (ha : 0 ≤ a) (ha2 : a ≤ 16) (h : ∀ C', (∀ c i, (c ≠ 3 ∨ i < a ∨ a + 4 ≤ i) → C' c i = C c i) → (∀ k, 0 ≤ k → k < 4 → C' 3 (a + k) = jand (jushr x (24 - 8 * k)) 255) → Q 0 C') : w_X9_putReady Q a x C := by
  have H : ∀ (n : Nat) (k : Int) (C1 : MM), 0 ≤ k → k ≤ 4 → 4 - k < n → (∀ c i, (c ≠ 3 ∨ i < a ∨ a + k ≤ i) → C1 c i = C c i) → (∀ j, 0 ≤ j → j < k → C1 3 (a + j) = jand (jushr x (24 - 8 * j)) 255) → jit (fun _ _ _ _ => False) (wb_X9_putReady_b2 Q) n a x k C1 := by
    intro n
    induction n with
    | zero => intro k C1 h0 h4 hn hf hv; omega
    | succ n ih =>
      intro k C1 h0 h4 hn hf hv
      show wb_X9_putReady_b2 Q (jit (fun _ _ _ _ => False) (wb_X9_putReady_b2 Q) n) a x k C1
      unfold wb_X9_putReady_b2
      refine ⟨fun z => ?_, fun z => ⟨by unfold ri_; omega, fun z2 => by omega, fun z2 => ⟨by unfold ri_; omega, by unfold ri_; omega, by unfold ri_; omega, by omega, by omega, fun C2 e2 => ⟨by unfold ri_; omega, ih (k + 1) C2 (by omega) (by omega) (by omega) ?_ ?_⟩⟩⟩⟩
      · have e4 : k = 4 := by omega
        subst e4
        exact h C1 hf hv
      · intro c i hc
        subst e2
        unfold ux_
        rw [if_neg (by omega)]
        exact hf c i (by omega)
      · intro j j0 j1
        subst e2
        unfold ux_
        by_cases e : j = k
        · subst e; simp
        · rw [if_neg (by omega)]
          exact hv j j0 (by omega)
  exact ⟨5, H 5 0 C (by omega) (by omega) (by omega) (fun _ _ _ => rfl) (fun j j0 j1 => by omega)⟩
set_option maxHeartbeats 1000000 in
theorem p_R_feed {Q : Int → MM → Prop} {a b c d e : Int} {R : MM} (h : ∀ R', (∀ k i, (k ≠ 2 ∧ ¬ (k = 0 ∧ i = 0)) → R' k i = R k i) → R' 0 0 = 0 → (∀ k, 0 ≤ k → k < 4 → R' 2 k = ji2b (jshr a (24 - 8 * k)) ∧ R' 2 (4 + k) = ji2b (jshr b (24 - 8 * k)) ∧ R' 2 (8 + k) = ji2b (jshr c (24 - 8 * k)) ∧ R' 2 (12 + k) = ji2b (jshr d (24 - 8 * k)) ∧ R' 2 (16 + k) = ji2b (jshr e (24 - 8 * k))) → Q 0 R') : w_X12_feed Q a b c d e R := by
  unfold w_X12_feed
  intro R0 e0
  have H : ∀ (n : Nat) (k : Int) (R1 : MM), 0 ≤ k → k ≤ 4 → 4 - k < n → (∀ c i, c ≠ 2 → R1 c i = R0 c i) → (∀ j, 0 ≤ j → j < k → R1 2 j = ji2b (jshr a (24 - 8 * j)) ∧ R1 2 (4 + j) = ji2b (jshr b (24 - 8 * j)) ∧ R1 2 (8 + j) = ji2b (jshr c (24 - 8 * j)) ∧ R1 2 (12 + j) = ji2b (jshr d (24 - 8 * j)) ∧ R1 2 (16 + j) = ji2b (jshr e (24 - 8 * j))) → jit (fun _ _ _ _ _ _ _ => False) (wb_X12_feed_b8 Q) n a b c d e k R1 := by
    intro n
    induction n with
    | zero => intro k C1 h0 h4 hn hf hv; omega
    | succ n ih =>
      intro k R1 h0 h4 hn hf hv
      show wb_X12_feed_b8 Q (jit (fun _ _ _ _ _ _ _ => False) (wb_X12_feed_b8 Q) n) a b c d e k R1
      unfold wb_X12_feed_b8
      refine ⟨fun z => ?_, fun z => ?_⟩
      · have e4 : k = 4 := by omega
        subst e4
        refine h R1 ?_ ?_ hv
        · intro c i hc
          rw [hf c i hc.1, e0]; unfold ux_; rw [if_neg (by omega)]
        · rw [hf 0 0 (by omega), e0]; simp [ux_]
      · refine ⟨by unfold ri_; omega, by unfold ri_; omega, by omega, by omega, fun R2 e2 => ⟨by unfold ri_; omega, by omega, by omega, fun R3 e3 => ⟨by unfold ri_; omega, by omega, by omega, fun R4 e4 => ⟨by unfold ri_; omega, by omega, by omega, fun R5 e5 => ⟨by unfold ri_; omega, by omega, by omega, fun R6 e6 => ⟨by unfold ri_; omega, ih (k + 1) R6 (by omega) (by omega) (by omega) ?_ ?_⟩⟩⟩⟩⟩⟩
        · intro c i hc
          subst e6 e5 e4 e3 e2
          simp only [ux_, hc, false_and, if_false]
          exact hf c i hc
        · intro j j0 j1
          subst e6 e5 e4 e3 e2
          have hj := hv j j0
          simp only [ux_, true_and]
          refine ⟨?_, ?_, ?_, ?_, ?_⟩ <;> grind
  exact ⟨5, H 5 0 R0 (by omega) (by omega) (by omega) (fun _ _ _ => rfl) (fun j j0 j1 => by omega)⟩
