/-! the tape, in the class and in the reference -/
def Rtape (C R : MM) : Prop := C 1 1 = R 0 3 ∧ 0 ≤ C 1 1 ∧ C 1 1 ≤ 4000 ∧ (∀ i, 0 ≤ i → i < C 1 1 → C 2 i = R 1 i % 256) ∧ (∀ i, 0 ≤ i → i < 20 → C 3 i = R 2 i % 256)
theorem ux_s (M : MM) (c : Nat) (i v : Int) : ux_ M c i v c i = v := by simp [ux_]
theorem ux_c (M : MM) {c c' : Nat} (i v i' : Int) (h : c' ≠ c) : ux_ M c i v c' i' = M c' i' := by simp [ux_, h]
theorem ux_i (M : MM) (c : Nat) {i i' : Int} (v : Int) (h : i' ≠ i) : ux_ M c i v c i' = M c i' := by simp [ux_, h]
set_option maxHeartbeats 400000 in
theorem t_wipe {C R : MM} (h : Rtape C R) : w_X11_wipe (fun r C' => w_X12_wipe (fun r' R' => r = r' ∧ Rtape C' R') R) C := by
  obtain ⟨h1, h2, h3, h4, h5⟩ := h
  unfold w_X11_wipe w_X12_wipe Rtape
  intro C1 e1 R1 e2 R2 e3
  subst e1 e2 e3
  simp only [ux_]
  refine ⟨trivial, by simp, by simp, by simp, ?_, ?_⟩
  · intro i a b; simp at b; omega
  · intro i a b; simpa using h5 i a b
set_option maxHeartbeats 1000000 in
theorem t_cut {C R : MM} {p : Int} (h : Rtape C R) : w_X11_cut (fun r C' => w_X12_cut (fun r' R' => r = r' ∧ Rtape C' R') p R) p C := by
  obtain ⟨h1, h2, h3, h4, h5⟩ := h
  unfold w_X11_cut w_X12_cut Rtape
  repeat' (first | intro _ | apply And.intro)
  all_goals (try subst_vars)
  all_goals (try simp only [ux_, jand_255] at *)
  all_goals (try simp only [false_and, and_false, true_and, and_true, if_false, if_true, ite_false, ite_true, and_self] at *)
  all_goals (try simp at *)
  all_goals first | omega | grind
set_option maxHeartbeats 1000000 in
theorem t_letter {C R : MM} {p : Int} (h : Rtape C R) : w_X11_letter (fun r C' => w_X12_letter (fun r' R' => r = r' ∧ Rtape C' R') p R) p C := by
  obtain ⟨h1, h2, h3, h4, h5⟩ := h
  unfold w_X11_letter w_X12_letter Rtape
  repeat' (first | intro _ | apply And.intro)
  all_goals (try subst_vars)
  all_goals (try simp only [ux_, jand_255] at *)
  all_goals (try simp only [false_and, and_false, true_and, and_true, if_false, if_true, ite_false, ite_true, and_self] at *)
  all_goals (try simp at *)
  all_goals first | omega | grind
