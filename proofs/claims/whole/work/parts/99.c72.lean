/-! rules are read: all of them -/
theorem J_all7 {C0 R0 : MM} {E : Nat → Int} {L : Nat} (hT : TX C0 R0 E L) (hN : KWn C0) : ∀ (d : Nat) (r : Int) (k : Nat) (A : MM), r + d = 12 → 0 ≤ r → k ≤ L → OKA C0 A → A 261 3 = r → (∀ j, 0 ≤ j → j < r → RLA A j) →
    (∃ (k' : Nat) (A' : MM), C0 4 k' = 0 ∧ OKA C0 A' ∧ (∀ j, 0 ≤ j → j < A' 261 3 → RLA A' j) ∧ (∀ C, KC0 C0 k A C → ∀ Q : Int → MM → Prop, (∀ C', KC0 C0 k' A' C' → Q 1 C') → jit (fun _ _ => False) (wb_X7_readAll_b29 Q) (d + 1) r C) ∧ (∀ R, KRq0 C0 R0 E k A R → (∀ j, 0 ≤ j → j < r → RLq A R j) → ∀ (Q : Int → MM → Prop) (x1 : Int), (∀ R', KRq0 C0 R0 E k' A' R' → (∀ j, 0 ≤ j → j < A' 261 3 → RLq A' R' j) → w_X12_rules_b77 Q x1 R') → jit (fun _ _ => False) (wb_X12_rules_b56 Q) (d + 2) x1 R)) ∨
    ∃ f pl, 0 < f ∧ (∀ C, KC0 C0 k A C → ∀ Q : Int → MM → Prop, (∀ C' M, KF C0 f pl C' → M = ux_ (ux_ C' 261 3 0) 261 16 0 → Q 0 M) → jit (fun _ _ => False) (wb_X7_readAll_b29 Q) (d + 1) r C) ∧ (∀ R, KRq0 C0 R0 E k A R → ∀ (Q : Int → MM → Prop) (x1 : Int), (∀ R', KRg R0 f pl R' → w_X12_rules_b77 Q x1 R') → jit (fun _ _ => False) (wb_X12_rules_b56 Q) (d + 2) x1 R) := by
  intro d
  induction d with
  | zero =>
    intro r k A hd r0 hk hA hr hj
    by_cases w : C0 4 k = 0
    · refine Or.inl ⟨k, A, w, hA, by rw [hr]; exact hj, fun C hC Q hq => ?_, fun R hR hl Q x1 hq => ?_⟩
      · show wb_X7_readAll_b29 Q _ r C
        unfold wb_X7_readAll_b29
        exact ⟨fun z => by omega, fun _ v2 e2 _ => ⟨fun _ => hq C hC, fun z => absurd (by rw [e2, (KC0_w hC).1]; exact w) z⟩⟩
      · show wb_X12_rules_b56 Q _ x1 R
        unfold wb_X12_rules_b56
        exact fun v1 e1 _ => ⟨fun _ => hq R hR (by rw [hr]; exact hl), fun _ v3 e3 _ => ⟨fun _ => hq R hR (by rw [hr]; exact hl), fun z => absurd (by rw [e3]; exact (tk_end hR.2.1.2.2).mpr w) z⟩⟩
    · rcases J_rule hT hk hA hN r hr with ⟨_, _, _, _, _, z, -⟩ | ⟨f, pl, f0, cR, rR⟩
      · omega
      · refine Or.inr ⟨f, pl, f0, fun C hC Q hq => ?_, fun R hR Q x1 hq => ?_⟩
        · show wb_X7_readAll_b29 Q _ r C
          unfold wb_X7_readAll_b29
          exact ⟨fun z => by omega, fun _ v2 e2 _ => ⟨fun z => absurd (by rw [← (KC0_w hC).1, ← e2]; exact z) w, fun _ => cR C hC _ (fun C' h' _ => ⟨fun z => absurd rfl z, fun _ M8 e8 M9 e9 => hq C' M9 h' (by rw [e9, e8])⟩)⟩⟩
        · show wb_X12_rules_b56 Q _ x1 R
          unfold wb_X12_rules_b56
          refine fun v1 e1 _ => ⟨fun z => absurd (by rw [e1]; exact hR.2.2.1) z, fun _ v3 e3 _ => ⟨fun z => absurd ((tk_end hR.2.1.2.2).mp (by rw [← e3]; exact z)) w, fun _ => rR R hR _ (fun R' h' => ?_)⟩⟩
          show wb_X12_rules_b56 Q _ x1 R'
          unfold wb_X12_rules_b56
          exact fun v5 e5 _ => ⟨fun _ => hq R' h', fun z => by rw [e5, h'.2.1] at z; omega⟩
  | succ d ih =>
    intro r k A hd r0 hk hA hr hj
    by_cases w : C0 4 k = 0
    · refine Or.inl ⟨k, A, w, hA, by rw [hr]; exact hj, fun C hC Q hq => ?_, fun R hR hl Q x1 hq => ?_⟩
      · show wb_X7_readAll_b29 Q _ r C
        unfold wb_X7_readAll_b29
        exact ⟨fun z => by omega, fun _ v2 e2 _ => ⟨fun _ => hq C hC, fun z => absurd (by rw [e2, (KC0_w hC).1]; exact w) z⟩⟩
      · show wb_X12_rules_b56 Q _ x1 R
        unfold wb_X12_rules_b56
        exact fun v1 e1 _ => ⟨fun _ => hq R hR (by rw [hr]; exact hl), fun _ v3 e3 _ => ⟨fun _ => hq R hR (by rw [hr]; exact hl), fun z => absurd (by rw [e3]; exact (tk_end hR.2.1.2.2).mpr w) z⟩⟩
    have cl : ∀ C, KC0 C0 k A C → ∀ Q : Int → MM → Prop, w_X7_readRule (fun r4 M5 => (r4 = 0 ∨ r4 = 1) → (¬ r4 = 0 → ri_ (r + 1) ∧ (jit (fun _ _ => False) (wb_X7_readAll_b29 Q) (d + 1) (r + 1) M5)) ∧ (r4 = 0 → (∀ M8, M8 = ux_ M5 261 3 0 → (∀ M9, M9 = ux_ M8 261 16 0 → Q 0 M9)))) C → jit (fun _ _ => False) (wb_X7_readAll_b29 Q) (d + 1 + 1) r C := fun C hC Q hq => by
      show wb_X7_readAll_b29 Q _ r C
      unfold wb_X7_readAll_b29
      exact ⟨fun z => by omega, fun _ v2 e2 _ => ⟨fun z => absurd (by rw [← (KC0_w hC).1, ← e2]; exact z) w, fun _ => hq⟩⟩
    have rf : ∀ R, KRq0 C0 R0 E k A R → ∀ (Q : Int → MM → Prop) (x1 : Int), w_X12_readRule (fun _ M6 => jit (fun _ _ => False) (wb_X12_rules_b56 Q) (d + 2) x1 M6) R → jit (fun _ _ => False) (wb_X12_rules_b56 Q) (d + 1 + 2) x1 R := fun R hR Q x1 hq => by
      show wb_X12_rules_b56 Q _ x1 R
      unfold wb_X12_rules_b56
      exact fun v1 e1 _ => ⟨fun z => absurd (by rw [e1]; exact hR.2.2.1) z, fun _ v3 e3 _ => ⟨fun z => absurd ((tk_end hR.2.1.2.2).mp (by rw [← e3]; exact z)) w, fun _ => hq⟩⟩
    rcases J_rule hT hk hA hN r hr with ⟨k1, A1, o1, o2, o3, o4, oj, cR, rR⟩ | ⟨f, pl, f0, cR, rR⟩
    rotate_left
    · refine Or.inr ⟨f, pl, f0, fun C hC Q hq => cl C hC Q (cR C hC _ (fun C' h' _ => ⟨fun z => absurd rfl z, fun _ M8 e8 M9 e9 => hq C' M9 h' (by rw [e9, e8])⟩)), fun R hR Q x1 hq => rf R hR Q x1 (rR R hR _ (fun R' h' => ?_))⟩
      show wb_X12_rules_b56 Q _ x1 R'
      unfold wb_X12_rules_b56
      exact fun v5 e5 _ => ⟨fun _ => hq R' h', fun z => by rw [e5, h'.2.1] at z; omega⟩
    have lst : ∀ R R', (∀ j, 0 ≤ j → j < r → RLq A R j) → RLq A1 R' r → FRu R R' r → ∀ j, 0 ≤ j → j < r + 1 → RLq A1 R' j := fun R R' hl h1 hf j j0 j1 => by
      by_cases y : j = r
      · rw [y]; exact h1
      · exact RLq_m (hl j j0 (by omega)) j0 (by omega) o3 hf
    have hj1 : ∀ j, 0 ≤ j → j < r + 1 → RLA A1 j := fun j j0 j1 => by
      by_cases y : j = r
      · rw [y]; exact oj
      · exact RLA_m (hj j j0 (by omega)) j0 (by omega) o3
    rcases ih (r + 1) k1 A1 (by omega) (by omega) o1 o2 o3.2.2.1 hj1 with ⟨k2, A2, a1, a2, aj, cA, rA⟩ | ⟨f, pl, f0, cA, rA⟩
    · exact Or.inl ⟨k2, A2, a1, a2, aj, fun C hC Q hq => cl C hC Q (cR C hC _ (fun C' h' _ => ⟨fun _ => ⟨by unfold ri_; omega, cA C' (KC_0 h') Q hq⟩, fun z => absurd z (by decide)⟩)), fun R hR hl Q x1 hq => rf R hR Q x1 (rR R hR _ (fun R' h' hl' hf => rA R' (KRq_00 h') (lst R R' hl hl' hf) Q x1 hq))⟩
    · exact Or.inr ⟨f, pl, f0, fun C hC Q hq => cl C hC Q (cR C hC _ (fun C' h' _ => ⟨fun _ => ⟨by unfold ri_; omega, cA C' (KC_0 h') Q hq⟩, fun z => absurd z (by decide)⟩)), fun R hR Q x1 hq => rf R hR Q x1 (rR R hR _ (fun R' h' _ _ => rA R' (KRq_00 h') Q x1 hq))⟩
