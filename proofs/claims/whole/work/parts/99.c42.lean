/-! answer, broken, on both sides -/
theorem t_answer {C R : MM} {p q : Int} (h : Ran C R) : w_X11_answer (fun r C' => C' = C ∧ w_X12_answer (fun r' R' => r = r' ∧ R' = ux_ R 0 0 0) p q R) (fun E C' => E = "java/util/NoSuchElementException" ∧ C' = C ∧ w_X12_answer (fun r' R' => R' = ux_ R 0 0 1) p q R) p q C := by
  obtain ⟨h1, h2, h3, h4⟩ := h
  have bad : ¬ (0 ≤ p ∧ p < C 219 20 ∧ 0 ≤ q ∧ q ≤ 2) → w_X12_answer (fun r' R' => R' = ux_ R 0 0 1) p q R := fun hn => by
    have b22 : w_X12_answer_b22 (fun r' R' => R' = ux_ R 0 0 1) p q R := by
      unfold w_X12_answer_b22 w_X12_answer_b27
      intro M1 e1 v2 e2 _
      rw [e1, ux_s] at e2
      exact ⟨fun y => by omega, fun _ => e1⟩
    unfold w_X12_answer
    exact ⟨fun _ => b22, fun z v2 e2 _ => ⟨fun _ => b22, fun z2 => ⟨fun _ => b22, fun z3 => ⟨fun z4 => absurd ⟨by omega, by omega, by omega, z4⟩ hn, fun _ => b22⟩⟩⟩⟩
  have good : ∀ r, 0 ≤ p → p < C 219 20 → 0 ≤ q → q ≤ 2 → r = (if q = 0 then C 232 p else if q = 1 then C 233 p else C 234 p) → w_X12_answer (fun r' R' => r = r' ∧ R' = ux_ R 0 0 0) p q R := fun r a b c d er => by
    obtain ⟨g1, g2, g3⟩ := h4 p a b
    unfold w_X12_answer w_X12_answer_b27
    refine ⟨fun y => by omega, fun _ v2 e2 _ => ⟨fun y => by omega, fun _ => ⟨fun y => by omega, fun _ => ⟨fun _ M1 e1 v2 e2 _ => ⟨fun _ => ⟨fun y => ⟨fun y2 => ⟨a, by omega, fun v6 e6 _ => ⟨?_, e1⟩⟩, fun y2 => ⟨a, by omega, fun v7 e7 _ => ⟨?_, e1⟩⟩⟩, fun y => ⟨a, by omega, fun v8 e8 _ => ⟨?_, e1⟩⟩⟩, fun y => absurd (by rw [e2, e1, ux_s]; decide) y⟩, fun y => by omega⟩⟩⟩⟩
    · rw [er, if_neg y, if_neg y2, e6, e1, ux_c _ _ _ _ (by decide)]; exact g3
    · rw [er, if_neg y, if_pos y2, e7, e1, ux_c _ _ _ _ (by decide)]; exact g2
    · rw [er, if_pos y, e8, e1, ux_c _ _ _ _ (by decide)]; exact g1
  unfold w_X11_answer w_X11_answer_b24
  refine ⟨fun z => ⟨rfl, rfl, bad fun y => by omega⟩, fun z v2 e2 _ => ⟨fun z2 => ⟨rfl, rfl, bad fun y => by omega⟩, fun z2 => ⟨fun z3 => ⟨rfl, rfl, bad fun y => by omega⟩, fun z3 => ⟨fun z4 => ⟨fun z5 => ⟨fun z6 => ⟨by omega, by omega, fun v8 e8 _ => ⟨rfl, good v8 (by omega) (by omega) (by omega) z4 (by rw [if_neg z5, if_neg z6]; exact e8)⟩⟩, fun z6 => ⟨by omega, by omega, fun v9 e9 _ => ⟨rfl, good v9 (by omega) (by omega) (by omega) z4 (by rw [if_neg z5, if_pos z6]; exact e9)⟩⟩⟩, fun z5 => ⟨by omega, by omega, fun v10 e10 _ => ⟨rfl, good v10 (by omega) (by omega) (by omega) z4 (by rw [if_pos z5]; exact e10)⟩⟩⟩, fun z4 => ⟨rfl, rfl, bad fun y => by omega⟩⟩⟩⟩⟩
theorem t_broken {C R : MM} {p : Int} (h1 : C 0 10 = R 0 113) (h3 : C 0 10 ≤ 3) (h : ∀ k, 0 ≤ k → k < C 0 10 → C 260 k = R 79 k) : w_X11_broken (fun r C' => C' = C ∧ w_X12_broken (fun r' R' => r = r' ∧ R' = ux_ R 0 0 0) p R) (fun E C' => E = "java/util/NoSuchElementException" ∧ C' = C ∧ w_X12_broken (fun r' R' => R' = ux_ R 0 0 1) p R) p C := by
  have bad : ¬ (0 ≤ p ∧ p < C 0 10) → w_X12_broken (fun r' R' => R' = ux_ R 0 0 1) p R := fun hn => by
    have b13 : w_X12_broken_b13 (fun r' R' => R' = ux_ R 0 0 1) p R := by
      unfold w_X12_broken_b13 w_X12_broken_b18
      intro M1 e1 v2 e2 _
      rw [e1, ux_s] at e2
      exact ⟨fun y => by omega, fun _ => e1⟩
    unfold w_X12_broken
    exact ⟨fun _ => b13, fun z v2 e2 _ => ⟨fun z2 => absurd ⟨by omega, by omega⟩ hn, fun _ => b13⟩⟩
  unfold w_X11_broken w_X11_broken_b12
  refine ⟨fun z => ⟨rfl, rfl, bad fun y => by omega⟩, fun z v2 e2 _ => ⟨fun z2 => ⟨by omega, by omega, fun v4 e4 _ => ⟨rfl, ?_⟩⟩, fun z2 => ⟨rfl, rfl, bad fun y => by omega⟩⟩⟩
  unfold w_X12_broken w_X12_broken_b18
  refine ⟨fun y => by omega, fun _ v2 e2 _ => ⟨fun _ M1 e1 v5 e5 _ => ⟨fun _ => ⟨by omega, by omega, fun v6 e6 _ => ⟨?_, e1⟩⟩, fun y => absurd (by rw [e5, e1, ux_s]; decide) y⟩, fun y => by omega⟩⟩
  rw [e4, e6, e1, ux_c _ _ _ _ (by decide)]
  exact h p (by omega) (by omega)
