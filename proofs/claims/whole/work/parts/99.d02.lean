/-! the calls in one form: what stands behind the class's call, then behind the reference's -/
theorem v_feed {i : Int} {C R : MM} {p1 p2 p3 p4 p5 : Int} (i0 : 0 ≤ i) (i1 : i ≤ 600) (g1 : ri_ p1) (g2 : ri_ p2) (g3 : ri_ p3) (g4 : ri_ p4) (g5 : ri_ p5) (h : Ral i C R) : ∃ Q1, w_X11_feed Q1 p1 p2 p3 p4 p5 C ∧ ∀ r C', Q1 r C' → ∃ Q0, w_X12_feed Q0 p1 p2 p3 p4 p5 R ∧ ∀ r' R', Q0 r' R' → r = r' ∧ Ral (i + 1) C' R' := by
  obtain ⟨hD, hK, hG, hF, hL, hA, hP, hU, hX, h36, n1, n2, hN⟩ := id h
  refine ⟨_, u_feed g1 g2 g3 g4 g5 (Ral_B h).1 (Ral_B h).2.2, fun r C' hq => ?_⟩
  refine ⟨_, hq, fun r' R' hq => ?_⟩; obtain ⟨q1, a1, a2, a3, a4⟩ := hq
  exact ⟨q1, n_feed h a1 a2 a3 a4⟩
theorem v_end {i : Int} {C R : MM} {p1 : Int} (i0 : 0 ≤ i) (i1 : i ≤ 600) (g1 : ri_ p1) (h : Ral i C R) : ∃ Q1, w_X11_end Q1 p1 C ∧ ∀ r C', Q1 r C' → ∃ Q0, w_X12_end Q0 p1 R ∧ ∀ r' R', Q0 r' R' → r = r' ∧ Ral (i + 1) C' R' := by
  obtain ⟨hD, hK, hG, hF, hL, hA, hP, hU, hX, h36, n1, n2, hN⟩ := id h
  refine ⟨_, u_end g1 (Ral_B h).1 (Ral_B h).2, fun r C' hq => ?_⟩
  refine ⟨_, hq, fun r' R' hq => ?_⟩; obtain ⟨q1, a1, a2, a3, a4⟩ := hq
  exact ⟨q1, n_end h a1 a2 a3 a4⟩
theorem v_wipe {i : Int} {C R : MM} (i0 : 0 ≤ i) (i1 : i ≤ 600) (h : Ral i C R) : ∃ Q1, w_X11_wipe Q1 C ∧ ∀ r C', Q1 r C' → ∃ Q0, w_X12_wipe Q0 R ∧ ∀ r' R', Q0 r' R' → r = r' ∧ Ral (i + 1) C' R' := by
  obtain ⟨hD, hK, hG, hF, hL, hA, hP, hU, hX, h36, n1, n2, hN⟩ := id h
  refine ⟨_, u_wipe (Ral_B h).1, fun r C' hq => ?_⟩
  refine ⟨_, hq, fun r' R' hq => ?_⟩; obtain ⟨q1, q0, a1, a2, a3⟩ := hq
  exact ⟨q1, n_wipe h a1 a2 a3⟩
theorem v_flip {i : Int} {C R : MM} {p1 p2 : Int} (i0 : 0 ≤ i) (i1 : i ≤ 600) (h : Ral i C R) : ∃ Q1, w_X11_flip Q1 p1 p2 C ∧ ∀ r C', Q1 r C' → ∃ Q0, w_X12_flip Q0 p1 p2 R ∧ ∀ r' R', Q0 r' R' → r = r' ∧ Ral (i + 1) C' R' := by
  obtain ⟨hD, hK, hG, hF, hL, hA, hP, hU, hX, h36, n1, n2, hN⟩ := id h
  refine ⟨_, u_flip (Ral_B h).1 (Ral_B h).2, fun r C' hq => ?_⟩
  refine ⟨_, hq, fun r' R' hq => ?_⟩; obtain ⟨q1, a1, a2, a3, a4⟩ := hq
  exact ⟨q1, n_flip h a1 a2 a3 a4⟩
theorem v_cut {i : Int} {C R : MM} {p1 : Int} (i0 : 0 ≤ i) (i1 : i ≤ 600) (h : Ral i C R) : ∃ Q1, w_X11_cut Q1 p1 C ∧ ∀ r C', Q1 r C' → ∃ Q0, w_X12_cut Q0 p1 R ∧ ∀ r' R', Q0 r' R' → r = r' ∧ Ral (i + 1) C' R' := by
  obtain ⟨hD, hK, hG, hF, hL, hA, hP, hU, hX, h36, n1, n2, hN⟩ := id h
  refine ⟨_, u_cut (Ral_B h).1, fun r C' hq => ?_⟩
  refine ⟨_, hq, fun r' R' hq => ?_⟩; obtain ⟨q1, q0, a1, a2, a3⟩ := hq
  exact ⟨q1, n_wipe h a1 a2 a3⟩
theorem v_type {i : Int} {C R : MM} {p1 p2 : Int} (i0 : 0 ≤ i) (i1 : i ≤ 600) (h : Ral i C R) : ∃ Q1 X1, w_X11_type Q1 X1 p1 p2 C ∧ (∀ r C', Q1 r C' → ∃ Q0, w_X12_type Q0 p1 p2 R ∧ ∀ r' R', Q0 r' R' → r = r' ∧ R' 0 0 = 0 ∧ Ral (i + 1) C' R') ∧ ∀ E C', X1 E C' → ∃ Q0, w_X12_type Q0 p1 p2 R ∧ ∀ r' R', Q0 r' R' → (E, R' 0 0) ∈ ([("java/lang/IndexOutOfBoundsException", 1), ("java/lang/IllegalArgumentException", 2), ("java/lang/IllegalStateException", 3)] : List (String × Int)) ∧ Ral (i + 1) C' R' := by
  obtain ⟨hD, hK, hG, hF, hL, hA, hP, hU, hX, h36, n1, n2, hN⟩ := id h
  refine ⟨_, _, u_type hD.1.1, fun r C' hq => ?_, fun E C' hq => ?_⟩
  · refine ⟨_, hq, fun r' R' hq => ?_⟩; obtain ⟨q0, q1, a1, a2, a3, a4, a5⟩ := hq
    exact ⟨q1, q0, n_type h a1 a2 a3 a4 a5⟩
  · obtain ⟨hE, hq⟩ := hq; refine ⟨_, hq, fun r' R' hq => ?_⟩
    rcases hq with ⟨q0, a1, a2, a3, a4, a5⟩
    refine ⟨?_, n_type h a1 a2 a3 a4 a5⟩
    rw [q0]
    simp only [List.mem_cons, List.not_mem_nil, or_false] at hE
    rcases hE with rfl | rfl | rfl
    · first | decide | (unfold xT; decide) | (unfold xW; decide)
    · first | decide | (unfold xT; decide) | (unfold xW; decide)
    · first | decide | (unfold xT; decide) | (unfold xW; decide)
theorem v_field {i : Int} {C R : MM} {p1 p2 p3 p4 : Int} (i0 : 0 ≤ i) (i1 : i ≤ 600) (g3 : ri_ p3) (g4 : p4 = 0 ∨ p4 = 1) (h : Ral i C R) : ∃ Q1 X1, w_X11_field Q1 X1 p1 p2 p3 p4 C ∧ (∀ r C', Q1 r C' → ∃ Q0, w_X12_field Q0 p1 p2 p3 p4 R ∧ ∀ r' R', Q0 r' R' → r = r' ∧ R' 0 0 = 0 ∧ Ral (i + 1) C' R') ∧ ∀ E C', X1 E C' → ∃ Q0, w_X12_field Q0 p1 p2 p3 p4 R ∧ ∀ r' R', Q0 r' R' → (E, R' 0 0) ∈ ([("java/lang/IndexOutOfBoundsException", 1), ("java/lang/IllegalArgumentException", 2), ("java/lang/IllegalStateException", 3)] : List (String × Int)) ∧ Ral (i + 1) C' R' := by
  obtain ⟨hD, hK, hG, hF, hL, hA, hP, hU, hX, h36, n1, n2, hN⟩ := id h
  refine ⟨_, _, u_field g3 g4 hD.1.1, fun r C' hq => ?_, fun E C' hq => ?_⟩
  · refine ⟨_, hq, fun r' R' hq => ?_⟩; obtain ⟨q0, q1, a1, a2, a3, a4, a5, a6⟩ := hq
    exact ⟨q1, q0, n_field h a1 a2 a3 a4 a5 a6⟩
  · obtain ⟨hE, hq⟩ := hq; refine ⟨_, hq, fun r' R' hq => ?_⟩
    rcases hq with ⟨q0, a1, a2, a3, a4, a5, a6⟩
    refine ⟨?_, n_field h a1 a2 a3 a4 a5 a6⟩
    rw [q0]
    simp only [List.mem_cons, List.not_mem_nil, or_false] at hE
    rcases hE with rfl | rfl | rfl
    · first | decide | (unfold xT; decide) | (unfold xW; decide)
    · first | decide | (unfold xT; decide) | (unfold xW; decide)
    · first | decide | (unfold xT; decide) | (unfold xW; decide)
theorem v_typeLook {i : Int} {C R : MM} {p1 p2 : Int} (i0 : 0 ≤ i) (i1 : i ≤ 600) (h : Ral i C R) : ∃ Q1, w_X11_typeLook Q1 p1 p2 C ∧ ∀ r C', Q1 r C' → ∃ Q0, w_X12_typeLook Q0 p1 p2 R ∧ ∀ r' R', Q0 r' R' → r = r' ∧ Ral (i + 1) C' R' := by
  obtain ⟨hD, hK, hG, hF, hL, hA, hP, hU, hX, h36, n1, n2, hN⟩ := id h
  refine ⟨_, t_typeLook hD.1, fun r C' hq => ?_⟩
  obtain ⟨rfl, hq⟩ := hq; refine ⟨_, hq, fun r' R' hq => ?_⟩; obtain ⟨q1, rfl⟩ := hq
  exact ⟨q1, n_00 h 0⟩
theorem v_fieldLook {i : Int} {C R : MM} {p1 p2 p3 : Int} (i0 : 0 ≤ i) (i1 : i ≤ 600) (h : Ral i C R) : ∃ Q1, w_X11_fieldLook Q1 p1 p2 p3 C ∧ ∀ r C', Q1 r C' → ∃ Q0, w_X12_fieldLook Q0 p1 p2 p3 R ∧ ∀ r' R', Q0 r' R' → r = r' ∧ Ral (i + 1) C' R' := by
  obtain ⟨hD, hK, hG, hF, hL, hA, hP, hU, hX, h36, n1, n2, hN⟩ := id h
  refine ⟨_, t_fieldLook hD.1, fun r C' hq => ?_⟩
  obtain ⟨rfl, hq⟩ := hq; refine ⟨_, hq, fun r' R' hq => ?_⟩; obtain ⟨q1, rfl⟩ := hq
  exact ⟨q1, n_00 h 0⟩
theorem v_make {i : Int} {C R : MM} {p1 p2 : Int} (i0 : 0 ≤ i) (i1 : i ≤ 600) (g1 : ri_ p1) (h : Ral i C R) : ∃ Q1 X1, w_X11_make Q1 X1 p1 p2 C ∧ (∀ r C', Q1 r C' → ∃ Q0, w_X12_make Q0 p1 p2 R ∧ ∀ r' R', Q0 r' R' → r = r' ∧ R' 0 0 = 0 ∧ Ral (i + 1) C' R') ∧ ∀ E C', X1 E C' → ∃ Q0, w_X12_make Q0 p1 p2 R ∧ ∀ r' R', Q0 r' R' → (E, R' 0 0) ∈ ([("java/lang/IllegalArgumentException", 1), ("java/lang/IllegalStateException", 2)] : List (String × Int)) ∧ Ral (i + 1) C' R' := by
  obtain ⟨hD, hK, hG, hF, hL, hA, hP, hU, hX, h36, n1, n2, hN⟩ := id h
  refine ⟨_, _, u_make g1 hD.1, fun r C' hq => ?_, fun E C' hq => ?_⟩
  · refine ⟨_, hq, fun r' R' hq => ?_⟩; obtain ⟨q1, q0, a1, ⟨m, a2⟩, a3, a4⟩ := hq
    exact ⟨q1, q0, n_make h a1 a2 a3 a4⟩
  · obtain ⟨hE, rfl, hq⟩ := hq; refine ⟨_, hq, fun r' R' hq => ?_⟩
    rcases hq with rfl
    refine ⟨?_, n_00 h _⟩
    rw [ux_s]
    simp only [List.mem_cons, List.not_mem_nil, or_false] at hE
    rcases hE with rfl | rfl
    · first | decide | (unfold xT; decide) | (unfold xW; decide)
    · first | decide | (unfold xT; decide) | (unfold xW; decide)
theorem v_root {i : Int} {C R : MM} {p1 p2 : Int} (i0 : 0 ≤ i) (i1 : i ≤ 600) (g2 : p2 = 0 ∨ p2 = 1) (h : Ral i C R) : ∃ Q1 X1, w_X11_root Q1 X1 p1 p2 C ∧ (∀ r C', Q1 r C' → ∃ Q0, w_X12_root Q0 p1 p2 R ∧ ∀ r' R', Q0 r' R' → True ∧ R' 0 0 = 0 ∧ Ral (i + 1) C' R') ∧ ∀ E C', X1 E C' → ∃ Q0, w_X12_root Q0 p1 p2 R ∧ ∀ r' R', Q0 r' R' → (E, R' 0 0) ∈ ([("java/util/NoSuchElementException", 1), ("java/lang/IllegalStateException", 2)] : List (String × Int)) ∧ Ral (i + 1) C' R' := by
  obtain ⟨hD, hK, hG, hF, hL, hA, hP, hU, hX, h36, n1, n2, hN⟩ := id h
  refine ⟨_, _, u_root g2 hD.1, fun r C' hq => ?_, fun E C' hq => ?_⟩
  · refine ⟨_, hq, fun r' R' hq => ?_⟩; obtain ⟨q0, a1, a2, a3, a4, a5⟩ := hq
    exact ⟨trivial, q0, n_root h a1 a2 a3 a4 a5⟩
  · obtain ⟨hE, rfl, hq⟩ := hq; refine ⟨_, hq, fun r' R' hq => ?_⟩
    rcases hq with rfl
    refine ⟨?_, n_00 h _⟩
    rw [ux_s]
    simp only [List.mem_cons, List.not_mem_nil, or_false] at hE
    rcases hE with rfl | rfl
    · first | decide | (unfold xT; decide) | (unfold xW; decide)
    · first | decide | (unfold xT; decide) | (unfold xW; decide)
theorem v_set {i : Int} {C R : MM} {p1 p2 p3 : Int} (i0 : 0 ≤ i) (i1 : i ≤ 600) (h : Ral i C R) : ∃ Q1 X1, w_X11_set Q1 X1 p1 p2 p3 C ∧ (∀ r C', Q1 r C' → ∃ Q0, w_X12_set Q0 p1 p2 p3 R ∧ ∀ r' R', Q0 r' R' → r = r' ∧ R' 0 0 = 0 ∧ Ral (i + 1) C' R') ∧ ∀ E C', X1 E C' → ∃ Q0, w_X12_set Q0 p1 p2 p3 R ∧ ∀ r' R', Q0 r' R' → (E, R' 0 0) ∈ ([("java/util/NoSuchElementException", 1), ("java/lang/IllegalArgumentException", 2)] : List (String × Int)) ∧ Ral (i + 1) C' R' := by
  obtain ⟨hD, hK, hG, hF, hL, hA, hP, hU, hX, h36, n1, n2, hN⟩ := id h
  refine ⟨_, _, tt_set hD hP hX (by omega) (by omega) (by omega), fun r C' hq => ?_, fun E C' hq => ?_⟩
  · refine ⟨_, hq, fun r' R' hq => ?_⟩; obtain ⟨q1, q0, a1, a2, a3, a4, a5, a6⟩ := hq
    exact ⟨q1, q0, n_set h a1 a2 a3 a4 a5 a6⟩
  · obtain ⟨rfl, hq⟩ := hq; refine ⟨_, hq, fun r' R' hq => ?_⟩
    rcases hq with ⟨rfl, rfl⟩ | ⟨rfl, rfl⟩
    · exact ⟨by rw [ux_s]; decide, n_00 h _⟩
    · exact ⟨by rw [ux_s]; decide, n_00 h _⟩
theorem v_setStatic {i : Int} {C R : MM} {p1 p2 p3 : Int} (i0 : 0 ≤ i) (i1 : i ≤ 600) (h : Ral i C R) : ∃ Q1 X1, w_X11_setStatic Q1 X1 p1 p2 p3 C ∧ (∀ r C', Q1 r C' → ∃ Q0, w_X12_setStatic Q0 p1 p2 p3 R ∧ ∀ r' R', Q0 r' R' → r = r' ∧ R' 0 0 = 0 ∧ Ral (i + 1) C' R') ∧ ∀ E C', X1 E C' → ∃ Q0, w_X12_setStatic Q0 p1 p2 p3 R ∧ ∀ r' R', Q0 r' R' → (E, R' 0 0) ∈ ([("java/util/NoSuchElementException", 1), ("java/lang/IllegalArgumentException", 2)] : List (String × Int)) ∧ Ral (i + 1) C' R' := by
  obtain ⟨hD, hK, hG, hF, hL, hA, hP, hU, hX, h36, n1, n2, hN⟩ := id h
  refine ⟨_, _, tt_setStatic hD hP hX (by omega) (by omega) (by omega), fun r C' hq => ?_, fun E C' hq => ?_⟩
  · refine ⟨_, hq, fun r' R' hq => ?_⟩; obtain ⟨q1, q0, a1, a2, a3, a4, a5, a6⟩ := hq
    exact ⟨q1, q0, n_set h a1 a2 a3 a4 a5 a6⟩
  · obtain ⟨rfl, hq⟩ := hq; refine ⟨_, hq, fun r' R' hq => ?_⟩
    rcases hq with ⟨rfl, rfl⟩ | ⟨rfl, rfl⟩
    · exact ⟨by rw [ux_s]; decide, n_00 h _⟩
    · exact ⟨by rw [ux_s]; decide, n_00 h _⟩
theorem v_get {i : Int} {C R : MM} {p1 p2 : Int} (i0 : 0 ≤ i) (i1 : i ≤ 600) (h : Ral i C R) : ∃ Q1 X1, w_X11_get Q1 X1 p1 p2 C ∧ (∀ r C', Q1 r C' → ∃ Q0, w_X12_get Q0 p1 p2 R ∧ ∀ r' R', Q0 r' R' → r = r' ∧ R' 0 0 = 0 ∧ Ral (i + 1) C' R') ∧ ∀ E C', X1 E C' → ∃ Q0, w_X12_get Q0 p1 p2 R ∧ ∀ r' R', Q0 r' R' → (E, R' 0 0) ∈ ([("java/util/NoSuchElementException", 1)] : List (String × Int)) ∧ Ral (i + 1) C' R' := by
  obtain ⟨hD, hK, hG, hF, hL, hA, hP, hU, hX, h36, n1, n2, hN⟩ := id h
  refine ⟨_, _, u_get hD.1, fun r C' hq => ?_, fun E C' hq => ?_⟩
  · obtain ⟨rfl, hq⟩ := hq; refine ⟨_, hq, fun r' R' hq => ?_⟩; obtain ⟨q1, rfl⟩ := hq
    exact ⟨q1, ux_s _ _ _ _, n_00 h 0⟩
  · obtain ⟨hE, rfl, hq⟩ := hq; refine ⟨_, hq, fun r' R' hq => ?_⟩
    rcases hq with rfl
    refine ⟨?_, n_00 h _⟩
    rw [ux_s]
    simp only [List.mem_cons, List.not_mem_nil, or_false] at hE
    rcases hE with rfl
    · first | decide | (unfold xT; decide) | (unfold xW; decide)
theorem v_getStatic {i : Int} {C R : MM} {p1 p2 : Int} (i0 : 0 ≤ i) (i1 : i ≤ 600) (h : Ral i C R) : ∃ Q1 X1, w_X11_getStatic Q1 X1 p1 p2 C ∧ (∀ r C', Q1 r C' → ∃ Q0, w_X12_getStatic Q0 p1 p2 R ∧ ∀ r' R', Q0 r' R' → r = r' ∧ R' 0 0 = 0 ∧ Ral (i + 1) C' R') ∧ ∀ E C', X1 E C' → ∃ Q0, w_X12_getStatic Q0 p1 p2 R ∧ ∀ r' R', Q0 r' R' → (E, R' 0 0) ∈ ([("java/util/NoSuchElementException", 1)] : List (String × Int)) ∧ Ral (i + 1) C' R' := by
  obtain ⟨hD, hK, hG, hF, hL, hA, hP, hU, hX, h36, n1, n2, hN⟩ := id h
  refine ⟨_, _, u_getStatic hD.1, fun r C' hq => ?_, fun E C' hq => ?_⟩
  · obtain ⟨rfl, hq⟩ := hq; refine ⟨_, hq, fun r' R' hq => ?_⟩; obtain ⟨q1, rfl⟩ := hq
    exact ⟨q1, ux_s _ _ _ _, n_00 h 0⟩
  · obtain ⟨hE, rfl, hq⟩ := hq; refine ⟨_, hq, fun r' R' hq => ?_⟩
    rcases hq with rfl
    refine ⟨?_, n_00 h _⟩
    rw [ux_s]
    simp only [List.mem_cons, List.not_mem_nil, or_false] at hE
    rcases hE with rfl
    · first | decide | (unfold xT; decide) | (unfold xW; decide)
theorem v_object {i : Int} {C R : MM} {p1 p2 : Int} (i0 : 0 ≤ i) (i1 : i ≤ 600) (h : Ral i C R) : ∃ Q1, w_X11_object Q1 p1 p2 C ∧ ∀ r C', Q1 r C' → ∃ Q0, w_X12_object Q0 p1 p2 R ∧ ∀ r' R', Q0 r' R' → r = r' ∧ Ral (i + 1) C' R' := by
  obtain ⟨hD, hK, hG, hF, hL, hA, hP, hU, hX, h36, n1, n2, hN⟩ := id h
  refine ⟨_, t_object hD.1, fun r C' hq => ?_⟩
  obtain ⟨rfl, hq⟩ := hq; refine ⟨_, hq, fun r' R' hq => ?_⟩; obtain ⟨q1, rfl⟩ := hq
  exact ⟨q1, n_00 h 0⟩
theorem v_collect {i : Int} {C R : MM} (i0 : 0 ≤ i) (i1 : i ≤ 600) (h : Ral i C R) : ∃ Q1, w_X11_collect Q1 C ∧ ∀ r C', Q1 r C' → ∃ Q0, w_X12_collect Q0 R ∧ ∀ r' R', Q0 r' R' → r = r' ∧ Ral (i + 1) C' R' := by
  obtain ⟨hD, hK, hG, hF, hL, hA, hP, hU, hX, h36, n1, n2, hN⟩ := id h
  refine ⟨_, t_collect hD.1 hD.2.1, fun r C' hq => ?_⟩
  refine ⟨_, hq, fun r' R' hq => ?_⟩; obtain ⟨q1, q0, a1, a2, a3, a9, a4, a5, a6⟩ := hq
  exact ⟨q1, n_collect h a1 a2 a3 a4 a5 a6⟩
theorem v_undo {i : Int} {C R : MM} (i0 : 0 ≤ i) (i1 : i ≤ 600) (h : Ral i C R) : ∃ Q1, w_X11_undo Q1 C ∧ ∀ r C', Q1 r C' → ∃ Q0, w_X12_undo Q0 R ∧ ∀ r' R', Q0 r' R' → r = r' ∧ Ral (i + 1) C' R' := by
  obtain ⟨hD, hK, hG, hF, hL, hA, hP, hU, hX, h36, n1, n2, hN⟩ := id h
  refine ⟨_, t_undo hD.1 hD.2.1, fun r C' hq => ?_⟩
  refine ⟨_, hq, fun r' R' hq => ?_⟩; obtain ⟨q1, q0, a1, a2, a3, a4, a5, a6⟩ := hq
  exact ⟨q1, n_undo h a1 a2 a3 a4 a5 a6⟩
theorem v_swap {i : Int} {C R : MM} {p1 p2 : Int} (i0 : 0 ≤ i) (i1 : i ≤ 600) (g1 : ri_ p1) (g2 : ri_ p2) (h : Ral i C R) : ∃ Q1 X1, w_X11_swap Q1 X1 p1 p2 C ∧ (∀ r C', Q1 r C' → ∃ Q0, w_X12_swap Q0 p1 p2 R ∧ ∀ r' R', Q0 r' R' → r = r' ∧ R' 0 0 = 0 ∧ Ral (i + 1) C' R') ∧ ∀ E C', X1 E C' → ∃ Q0, w_X12_swap Q0 p1 p2 R ∧ ∀ r' R', Q0 r' R' → (E, R' 0 0) ∈ ([("java/util/NoSuchElementException", 1), ("java/lang/IllegalArgumentException", 2)] : List (String × Int)) ∧ Ral (i + 1) C' R' := by
  obtain ⟨hD, hK, hG, hF, hL, hA, hP, hU, hX, h36, n1, n2, hN⟩ := id h
  refine ⟨_, _, t_swap g1 g2 hD hP hX (by omega) (by omega) (by omega), fun r C' hq => ?_, fun E C' hq => ?_⟩
  · refine ⟨_, hq, fun r' R' hq => ?_⟩; obtain ⟨q1, q0, a1, a2, a3, a4, a5, a6⟩ := hq
    exact ⟨q1, q0, n_swap h a1 a2 a3 a4 a5 a6⟩
  · obtain ⟨rfl, hq⟩ := hq; refine ⟨_, hq, fun r' R' hq => ?_⟩
    rcases hq with ⟨rfl, rfl⟩ | ⟨rfl, rfl⟩
    · exact ⟨by rw [ux_s]; decide, n_00 h _⟩
    · exact ⟨by rw [ux_s]; decide, n_00 h _⟩
theorem v_copy {i : Int} {C R : MM} {p1 p2 : Int} (i0 : 0 ≤ i) (i1 : i ≤ 600) (h : Ral i C R) : ∃ Q1 X1, w_X11_copy Q1 X1 p1 p2 C ∧ (∀ r C', Q1 r C' → ∃ Q0, w_X12_copy Q0 p1 p2 R ∧ ∀ r' R', Q0 r' R' → r = r' ∧ R' 0 0 = 0 ∧ Ral (i + 1) C' R') ∧ ∀ E C', X1 E C' → ∃ Q0, w_X12_copy Q0 p1 p2 R ∧ ∀ r' R', Q0 r' R' → (E, R' 0 0) ∈ ([("java/util/NoSuchElementException", 1), ("java/lang/IllegalArgumentException", 2), ("java/lang/IllegalStateException", 3)] : List (String × Int)) ∧ Ral (i + 1) C' R' := by
  obtain ⟨hD, hK, hG, hF, hL, hA, hP, hU, hX, h36, n1, n2, hN⟩ := id h
  refine ⟨_, _, u_copy hD.1 hD.2.1, fun r C' hq => ?_, fun E C' hq => ?_⟩
  · refine ⟨_, hq, fun r' R' hq => ?_⟩; obtain ⟨q1, q0, a1, a2, a3, a4, a5⟩ := hq
    exact ⟨q1, q0, n_copy h a1 a2 a3 a4 a5⟩
  · obtain ⟨hE, hq⟩ := hq; refine ⟨_, hq, fun r' R' hq => ?_⟩
    rcases hq with ⟨q0, a1, a2, a3, a4, a5⟩
    refine ⟨?_, n_copy h a1 a2 a3 a4 a5⟩
    rw [q0]
    simp only [List.mem_cons, List.not_mem_nil, or_false] at hE
    rcases hE with rfl | rfl | rfl
    · first | decide | (unfold xT; decide) | (unfold xW; decide)
    · first | decide | (unfold xT; decide) | (unfold xW; decide)
    · first | decide | (unfold xT; decide) | (unfold xW; decide)
theorem v_apart {i : Int} {C R : MM} {p1 p2 : Int} (i0 : 0 ≤ i) (i1 : i ≤ 600) (h : Ral i C R) : ∃ Q1, w_X11_apart Q1 p1 p2 C ∧ ∀ r C', Q1 r C' → ∃ Q0, w_X12_apart Q0 p1 p2 R ∧ ∀ r' R', Q0 r' R' → r = r' ∧ Ral (i + 1) C' R' := by
  obtain ⟨hD, hK, hG, hF, hL, hA, hP, hU, hX, h36, n1, n2, hN⟩ := id h
  refine ⟨_, t_apart hD.1, fun r C' hq => ?_⟩
  refine ⟨_, hq, fun r' R' hq => ?_⟩; obtain ⟨q1, a1⟩ := hq
  exact ⟨q1, n_apart h a1⟩
theorem v_watch {i : Int} {C R : MM} {p1 p2 p3 : Int} (i0 : 0 ≤ i) (i1 : i ≤ 600) (h : Ral i C R) : ∃ Q1 X1, w_X11_watch Q1 X1 p1 p2 p3 C ∧ (∀ r C', Q1 r C' → ∃ Q0, w_X12_watch Q0 p1 p2 p3 R ∧ ∀ r' R', Q0 r' R' → r = r' ∧ R' 0 0 = 0 ∧ Ral (i + 1) C' R') ∧ ∀ E C', X1 E C' → ∃ Q0, w_X12_watch Q0 p1 p2 p3 R ∧ ∀ r' R', Q0 r' R' → (E, R' 0 0) ∈ ([("java/util/NoSuchElementException", 1), ("java/lang/IllegalArgumentException", 2), ("java/lang/IllegalStateException", 3)] : List (String × Int)) ∧ Ral (i + 1) C' R' := by
  obtain ⟨hD, hK, hG, hF, hL, hA, hP, hU, hX, h36, n1, n2, hN⟩ := id h
  refine ⟨_, _, u_watch hD.1 hD.2.1, fun r C' hq => ?_, fun E C' hq => ?_⟩
  · refine ⟨_, hq, fun r' R' hq => ?_⟩; obtain ⟨q1, q0, a1, a2, a3, a4, a5, a6⟩ := hq
    exact ⟨q1, q0, n_watch h a1 a2 a3 a4 a5 a6⟩
  · obtain ⟨hE, rfl, hq⟩ := hq; refine ⟨_, hq, fun r' R' hq => ?_⟩
    rcases hq with rfl
    refine ⟨?_, n_00 h _⟩
    rw [ux_s]
    simp only [List.mem_cons, List.not_mem_nil, or_false] at hE
    rcases hE with rfl | rfl | rfl
    · first | decide | (unfold xT; decide) | (unfold xW; decide)
    · first | decide | (unfold xT; decide) | (unfold xW; decide)
    · first | decide | (unfold xT; decide) | (unfold xW; decide)
theorem v_rows {i : Int} {C R : MM} {p1 : Int} (i0 : 0 ≤ i) (i1 : i ≤ 600) (h : Ral i C R) : ∃ Q1, w_X11_rows Q1 p1 C ∧ ∀ r C', Q1 r C' → ∃ Q0, w_X12_rows Q0 p1 R ∧ ∀ r' R', Q0 r' R' → r = r' ∧ Ral (i + 1) C' R' := by
  obtain ⟨hD, hK, hG, hF, hL, hA, hP, hU, hX, h36, n1, n2, hN⟩ := id h
  refine ⟨_, t_rows hD.2.1, fun r C' hq => ?_⟩
  obtain ⟨rfl, hq⟩ := hq; refine ⟨_, hq, fun r' R' hq => ?_⟩; obtain ⟨q1, rfl⟩ := hq
  exact ⟨q1, n_00 h 0⟩
theorem v_row {i : Int} {C R : MM} {p1 p2 p3 : Int} (i0 : 0 ≤ i) (i1 : i ≤ 600) (h : Ral i C R) : ∃ Q1 X1, w_X11_row Q1 X1 p1 p2 p3 C ∧ (∀ r C', Q1 r C' → ∃ Q0, w_X12_row Q0 p1 p2 p3 R ∧ ∀ r' R', Q0 r' R' → r = r' ∧ R' 0 0 = 0 ∧ Ral (i + 1) C' R') ∧ ∀ E C', X1 E C' → ∃ Q0, w_X12_row Q0 p1 p2 p3 R ∧ ∀ r' R', Q0 r' R' → (E, R' 0 0) ∈ ([("java/util/NoSuchElementException", 1)] : List (String × Int)) ∧ Ral (i + 1) C' R' := by
  obtain ⟨hD, hK, hG, hF, hL, hA, hP, hU, hX, h36, n1, n2, hN⟩ := id h
  refine ⟨_, _, u_row hD.2.1, fun r C' hq => ?_, fun E C' hq => ?_⟩
  · obtain ⟨rfl, hq⟩ := hq; refine ⟨_, hq, fun r' R' hq => ?_⟩; obtain ⟨q1, rfl⟩ := hq
    exact ⟨q1, ux_s _ _ _ _, n_00 h 0⟩
  · obtain ⟨hE, rfl, hq⟩ := hq; refine ⟨_, hq, fun r' R' hq => ?_⟩
    rcases hq with rfl
    refine ⟨?_, n_00 h _⟩
    rw [ux_s]
    simp only [List.mem_cons, List.not_mem_nil, or_false] at hE
    rcases hE with rfl
    · first | decide | (unfold xT; decide) | (unfold xW; decide)
theorem v_promise {i : Int} {C R : MM} (i0 : 0 ≤ i) (i1 : i ≤ 600) (h : Ral i C R) : ∃ Q1 X1, w_X11_promise Q1 X1 C ∧ (∀ r C', Q1 r C' → ∃ Q0, w_X12_promise Q0 R ∧ ∀ r' R', Q0 r' R' → r = r' ∧ R' 0 0 = 0 ∧ Ral (i + 1) C' R') ∧ ∀ E C', X1 E C' → ∃ Q0, w_X12_promise Q0 R ∧ ∀ r' R', Q0 r' R' → (E, R' 0 0) ∈ ([("java/lang/IllegalStateException", 1), ("java/lang/IllegalArgumentException", 2)] : List (String × Int)) ∧ Ral (i + 1) C' R' := by
  obtain ⟨hD, hK, hG, hF, hL, hA, hP, hU, hX, h36, n1, n2, hN⟩ := id h
  refine ⟨_, _, t_promise hD hK hP hX (by omega) (by omega), fun r C' hq => ?_, fun E C' hq => ?_⟩
  · refine ⟨_, hq, fun r' R' hq => ?_⟩; obtain ⟨q1, q0, a1, a2, a3, a4, a5, a6⟩ := hq
    exact ⟨q1, q0, n_promise h a1 a2 a3 a4 a5 a6⟩
  · refine ⟨_, hq, fun r' R' hq => ?_⟩
    rcases hq with ⟨rfl, rfl, rfl⟩ | ⟨rfl, q0, a1, a2, a3, a4, a5, a6⟩
    · exact ⟨by rw [ux_s]; decide, n_00 h _⟩
    · exact ⟨by rw [q0]; decide, n_promise h a1 a2 a3 a4 a5 a6⟩
theorem v_broken {i : Int} {C R : MM} {p1 : Int} (i0 : 0 ≤ i) (i1 : i ≤ 600) (h : Ral i C R) : ∃ Q1 X1, w_X11_broken Q1 X1 p1 C ∧ (∀ r C', Q1 r C' → ∃ Q0, w_X12_broken Q0 p1 R ∧ ∀ r' R', Q0 r' R' → r = r' ∧ R' 0 0 = 0 ∧ Ral (i + 1) C' R') ∧ ∀ E C', X1 E C' → ∃ Q0, w_X12_broken Q0 p1 R ∧ ∀ r' R', Q0 r' R' → (E, R' 0 0) ∈ ([("java/util/NoSuchElementException", 1)] : List (String × Int)) ∧ Ral (i + 1) C' R' := by
  obtain ⟨hD, hK, hG, hF, hL, hA, hP, hU, hX, h36, n1, n2, hN⟩ := id h
  refine ⟨_, _, t_broken hP.1 hP.2.2.1 hP.2.2.2.2.1, fun r C' hq => ?_, fun E C' hq => ?_⟩
  · obtain ⟨rfl, hq⟩ := hq; refine ⟨_, hq, fun r' R' hq => ?_⟩; obtain ⟨q1, rfl⟩ := hq
    exact ⟨q1, ux_s _ _ _ _, n_00 h 0⟩
  · obtain ⟨rfl, rfl, hq⟩ := hq; refine ⟨_, hq, fun r' R' hq => ?_⟩
    rcases hq with rfl
    exact ⟨by rw [ux_s]; decide, n_00 h _⟩
theorem v_take {i : Int} {C R : MM} {p1 : Int} (i0 : 0 ≤ i) (i1 : i ≤ 600) (h : Ral i C R) : ∃ Q1 X1, w_X11_take Q1 X1 p1 C ∧ (∀ r C', Q1 r C' → ∃ Q0, w_X12_take Q0 p1 R ∧ ∀ r' R', Q0 r' R' → r = r' ∧ R' 0 0 = 0 ∧ Ral (i + 1) C' R') ∧ ∀ E C', X1 E C' → ∃ Q0, w_X12_take Q0 p1 R ∧ ∀ r' R', Q0 r' R' → (E, R' 0 0) ∈ ([("java/lang/IndexOutOfBoundsException", 1)] : List (String × Int)) ∧ Ral (i + 1) C' R' := by
  obtain ⟨hD, hK, hG, hF, hL, hA, hP, hU, hX, h36, n1, n2, hN⟩ := id h
  refine ⟨_, _, u_take hD, fun r C' hq => ?_, fun E C' hq => ?_⟩
  · refine ⟨_, hq, fun r' R' hq => ?_⟩; obtain ⟨q1, q0, a1, a2, a3⟩ := hq
    exact ⟨q1, q0, n_take h a1 a2 a3⟩
  · obtain ⟨hE, rfl, hq⟩ := hq; refine ⟨_, hq, fun r' R' hq => ?_⟩
    rcases hq with rfl
    refine ⟨?_, n_00 h _⟩
    rw [ux_s]
    simp only [List.mem_cons, List.not_mem_nil, or_false] at hE
    rcases hE with rfl
    · first | decide | (unfold xT; decide) | (unfold xW; decide)
theorem v_thing {i : Int} {C R : MM} {p1 p2 p3 : Int} (i0 : 0 ≤ i) (i1 : i ≤ 600) (h : Ral i C R) : ∃ Q1, w_X11_thing Q1 p1 p2 p3 C ∧ ∀ r C', Q1 r C' → ∃ Q0, w_X12_thing Q0 p1 p2 p3 R ∧ ∀ r' R', Q0 r' R' → r = r' ∧ Ral (i + 1) C' R' := by
  obtain ⟨hD, hK, hG, hF, hL, hA, hP, hU, hX, h36, n1, n2, hN⟩ := id h
  refine ⟨_, t_thing hD, fun r C' hq => ?_⟩
  refine ⟨_, hq, fun r' R' hq => ?_⟩; obtain ⟨q1, q0, a1, a2, a3⟩ := hq
  exact ⟨q1, n_take h a1 a2 a3⟩
theorem v_slot {i : Int} {C R : MM} {p1 p2 p3 : Int} (i0 : 0 ≤ i) (i1 : i ≤ 600) (h : Ral i C R) : ∃ Q1 X1, w_X11_slot Q1 X1 p1 p2 p3 C ∧ (∀ r C', Q1 r C' → ∃ Q0, w_X12_slot Q0 p1 p2 p3 R ∧ ∀ r' R', Q0 r' R' → r = r' ∧ R' 0 0 = 0 ∧ Ral (i + 1) C' R') ∧ ∀ E C', X1 E C' → ∃ Q0, w_X12_slot Q0 p1 p2 p3 R ∧ ∀ r' R', Q0 r' R' → (E, R' 0 0) ∈ ([("java/util/NoSuchElementException", 1)] : List (String × Int)) ∧ Ral (i + 1) C' R' := by
  obtain ⟨hD, hK, hG, hF, hL, hA, hP, hU, hX, h36, n1, n2, hN⟩ := id h
  refine ⟨_, _, u_slot hD, fun r C' hq => ?_, fun E C' hq => ?_⟩
  · obtain ⟨rfl, hq⟩ := hq; refine ⟨_, hq, fun r' R' hq => ?_⟩; obtain ⟨q1, rfl⟩ := hq
    exact ⟨q1, ux_s _ _ _ _, n_00 h 0⟩
  · obtain ⟨hE, rfl, hq⟩ := hq; refine ⟨_, hq, fun r' R' hq => ?_⟩
    rcases hq with rfl
    refine ⟨?_, n_00 h _⟩
    rw [ux_s]
    simp only [List.mem_cons, List.not_mem_nil, or_false] at hE
    rcases hE with rfl
    · first | decide | (unfold xT; decide) | (unfold xW; decide)
theorem v_holder {i : Int} {C R : MM} {p1 p2 p3 p4 : Int} (i0 : 0 ≤ i) (i1 : i ≤ 600) (h : Ral i C R) : ∃ Q1 X1, w_X11_holder Q1 X1 p1 p2 p3 p4 C ∧ (∀ r C', Q1 r C' → ∃ Q0, w_X12_holder Q0 p1 p2 p3 p4 R ∧ ∀ r' R', Q0 r' R' → r = r' ∧ R' 0 0 = 0 ∧ Ral (i + 1) C' R') ∧ ∀ E C', X1 E C' → ∃ Q0, w_X12_holder Q0 p1 p2 p3 p4 R ∧ ∀ r' R', Q0 r' R' → (E, R' 0 0) ∈ ([("java/util/NoSuchElementException", 1)] : List (String × Int)) ∧ Ral (i + 1) C' R' := by
  obtain ⟨hD, hK, hG, hF, hL, hA, hP, hU, hX, h36, n1, n2, hN⟩ := id h
  refine ⟨_, _, u_holder hD, fun r C' hq => ?_, fun E C' hq => ?_⟩
  · refine ⟨_, hq, fun r' R' hq => ?_⟩; obtain ⟨q1, rfl, a1, a2⟩ := hq
    exact ⟨q1, ux_s _ _ _ _, n_holder h a1 a2⟩
  · obtain ⟨hE, a1, a2, hq⟩ := hq; refine ⟨_, hq, fun r' R' hq => ?_⟩
    rcases hq with rfl
    refine ⟨?_, n_holder h (RD_00 a1 _) a2⟩
    rw [ux_s]
    simp only [List.mem_cons, List.not_mem_nil, or_false] at hE
    rcases hE with rfl
    · first | decide | (unfold xT; decide) | (unfold xW; decide)
theorem v_picture {i : Int} {C R : MM} {p1 p2 : Int} (i0 : 0 ≤ i) (i1 : i ≤ 600) (g2 : ri_ p2) (h : Ral i C R) : ∃ Q1, w_X11_picture Q1 p1 p2 C ∧ ∀ r C', Q1 r C' → ∃ Q0, w_X12_picture Q0 p1 p2 R ∧ ∀ r' R', Q0 r' R' → r = r' ∧ Ral (i + 1) C' R' := by
  obtain ⟨hD, hK, hG, hF, hL, hA, hP, hU, hX, h36, n1, n2, hN⟩ := id h
  refine ⟨_, t_picture g2 hD, fun r C' hq => ?_⟩
  refine ⟨_, hq, fun r' R' hq => ?_⟩; obtain ⟨q1, q0, a1, a2, a3⟩ := hq
  exact ⟨q1, n_take h a1 a2 a3⟩
theorem v_member {i : Int} {C R : MM} {p1 p2 p3 p4 : Int} (i0 : 0 ≤ i) (i1 : i ≤ 600) (g4 : ri_ p4) (h : Ral i C R) : ∃ Q1 X1, w_X11_member Q1 X1 p1 p2 p3 p4 C ∧ (∀ r C', Q1 r C' → ∃ Q0, w_X12_member Q0 p1 p2 p3 p4 R ∧ ∀ r' R', Q0 r' R' → r = r' ∧ R' 0 0 = 0 ∧ Ral (i + 1) C' R') ∧ ∀ E C', X1 E C' → ∃ Q0, w_X12_member Q0 p1 p2 p3 p4 R ∧ ∀ r' R', Q0 r' R' → (E, R' 0 0) ∈ ([("java/util/NoSuchElementException", 1)] : List (String × Int)) ∧ Ral (i + 1) C' R' := by
  obtain ⟨hD, hK, hG, hF, hL, hA, hP, hU, hX, h36, n1, n2, hN⟩ := id h
  refine ⟨_, _, t_member g4 hD, fun r C' hq => ?_, fun E C' hq => ?_⟩
  · refine ⟨_, hq, fun r' R' hq => ?_⟩; obtain ⟨q1, rfl, a1, a2⟩ := hq
    exact ⟨q1, ux_s _ _ _ _, n_holder h a1 a2⟩
  · obtain ⟨rfl, a1, a2, hq⟩ := hq; refine ⟨_, hq, fun r' R' hq => ?_⟩
    rcases hq with rfl
    exact ⟨by rw [ux_s]; decide, n_holder h (RD_00 a1 _) a2⟩
theorem v_choose {i : Int} {C R : MM} {p1 p2 p3 : Int} (i0 : 0 ≤ i) (i1 : i ≤ 600) (h : Ral i C R) : ∃ Q1, w_X11_choose Q1 p1 p2 p3 C ∧ ∀ r C', Q1 r C' → ∃ Q0, w_X12_choose Q0 p1 p2 p3 R ∧ ∀ r' R', Q0 r' R' → r = r' ∧ Ral (i + 1) C' R' := by
  obtain ⟨hD, hK, hG, hF, hL, hA, hP, hU, hX, h36, n1, n2, hN⟩ := id h
  refine ⟨_, t_choose hD, fun r C' hq => ?_⟩
  refine ⟨_, hq, fun r' R' hq => ?_⟩; obtain ⟨q1, q0, a1, a2, a3⟩ := hq
  exact ⟨q1, n_take h a1 a2 a3⟩
theorem v_lost {i : Int} {C R : MM} {p1 : Int} (i0 : 0 ≤ i) (i1 : i ≤ 600) (h : Ral i C R) : ∃ Q1 X1, w_X11_lost Q1 X1 p1 C ∧ (∀ r C', Q1 r C' → ∃ Q0, w_X12_lost Q0 p1 R ∧ ∀ r' R', Q0 r' R' → r = r' ∧ R' 0 0 = 0 ∧ Ral (i + 1) C' R') ∧ ∀ E C', X1 E C' → ∃ Q0, w_X12_lost Q0 p1 R ∧ ∀ r' R', Q0 r' R' → (E, R' 0 0) ∈ ([("java/lang/IndexOutOfBoundsException", 1)] : List (String × Int)) ∧ Ral (i + 1) C' R' := by
  obtain ⟨hD, hK, hG, hF, hL, hA, hP, hU, hX, h36, n1, n2, hN⟩ := id h
  refine ⟨_, _, u_lost hD, fun r C' hq => ?_, fun E C' hq => ?_⟩
  · refine ⟨_, hq, fun r' R' hq => ?_⟩; obtain ⟨q1, q0, a1, a2, a3⟩ := hq
    exact ⟨q1, q0, n_take h a1 a2 a3⟩
  · obtain ⟨hE, rfl, hq⟩ := hq; refine ⟨_, hq, fun r' R' hq => ?_⟩
    rcases hq with rfl
    refine ⟨?_, n_00 h _⟩
    rw [ux_s]
    simp only [List.mem_cons, List.not_mem_nil, or_false] at hE
    rcases hE with rfl
    · first | decide | (unfold xT; decide) | (unfold xW; decide)
theorem v_lostThing {i : Int} {C R : MM} {p1 p2 : Int} (i0 : 0 ≤ i) (i1 : i ≤ 600) (h : Ral i C R) : ∃ Q1, w_X11_lostThing Q1 p1 p2 C ∧ ∀ r C', Q1 r C' → ∃ Q0, w_X12_lostThing Q0 p1 p2 R ∧ ∀ r' R', Q0 r' R' → r = r' ∧ Ral (i + 1) C' R' := by
  obtain ⟨hD, hK, hG, hF, hL, hA, hP, hU, hX, h36, n1, n2, hN⟩ := id h
  refine ⟨_, t_lostThing hD, fun r C' hq => ?_⟩
  obtain ⟨rfl, hq⟩ := hq; refine ⟨_, hq, fun r' R' hq => ?_⟩; obtain ⟨q1, rfl⟩ := hq
  exact ⟨q1, n_00 h 0⟩
theorem v_growth {i : Int} {C R : MM} {p1 p2 p3 : Int} (i0 : 0 ≤ i) (i1 : i ≤ 600) (h : Ral i C R) : ∃ Q1 X1, w_X11_growth Q1 X1 p1 p2 p3 C ∧ (∀ r C', Q1 r C' → ∃ Q0, w_X12_growth Q0 p1 p2 p3 R ∧ ∀ r' R', Q0 r' R' → r = r' ∧ R' 0 0 = 0 ∧ Ral (i + 1) C' R') ∧ ∀ E C', X1 E C' → ∃ Q0, w_X12_growth Q0 p1 p2 p3 R ∧ ∀ r' R', Q0 r' R' → (E, R' 0 0) ∈ ([("java/lang/IndexOutOfBoundsException", 1)] : List (String × Int)) ∧ Ral (i + 1) C' R' := by
  obtain ⟨hD, hK, hG, hF, hL, hA, hP, hU, hX, h36, n1, n2, hN⟩ := id h
  refine ⟨_, _, t_growth hD, fun r C' hq => ?_, fun E C' hq => ?_⟩
  · refine ⟨_, hq, fun r' R' hq => ?_⟩; obtain ⟨q1, q0, a1, a2, a3, a4, a5, a6⟩ := hq
    exact ⟨q1, q0, n_growth h a1 a2 a3 a4 a5 a6⟩
  · obtain ⟨rfl, rfl, hq⟩ := hq; refine ⟨_, hq, fun r' R' hq => ?_⟩
    rcases hq with rfl
    exact ⟨by rw [ux_s]; decide, n_00 h _⟩
theorem v_grown {i : Int} {C R : MM} {p1 : Int} (i0 : 0 ≤ i) (i1 : i ≤ 600) (h : Ral i C R) : ∃ Q1, w_X11_grown Q1 p1 C ∧ ∀ r C', Q1 r C' → ∃ Q0, w_X12_grown Q0 p1 R ∧ ∀ r' R', Q0 r' R' → r = r' ∧ Ral (i + 1) C' R' := by
  obtain ⟨hD, hK, hG, hF, hL, hA, hP, hU, hX, h36, n1, n2, hN⟩ := id h
  refine ⟨_, t_grown hG, fun r C' hq => ?_⟩
  obtain ⟨rfl, hq⟩ := hq; refine ⟨_, hq, fun r' R' hq => ?_⟩; obtain ⟨q1, rfl⟩ := hq
  exact ⟨q1, n_00 h 0⟩
theorem v_like {i : Int} {C R : MM} {p1 p2 p3 p4 : Int} (i0 : 0 ≤ i) (i1 : i ≤ 600) (h : Ral i C R) : ∃ Q1 X1, w_X11_like Q1 X1 p1 p2 p3 p4 C ∧ (∀ r C', Q1 r C' → ∃ Q0, w_X12_like Q0 p1 p2 p3 p4 R ∧ ∀ r' R', Q0 r' R' → r = r' ∧ R' 0 0 = 0 ∧ Ral (i + 1) C' R') ∧ ∀ E C', X1 E C' → ∃ Q0, w_X12_like Q0 p1 p2 p3 p4 R ∧ ∀ r' R', Q0 r' R' → (E, R' 0 0) ∈ ([("java/util/NoSuchElementException", 1)] : List (String × Int)) ∧ Ral (i + 1) C' R' := by
  obtain ⟨hD, hK, hG, hF, hL, hA, hP, hU, hX, h36, n1, n2, hN⟩ := id h
  refine ⟨_, _, t_like hD, fun r C' hq => ?_, fun E C' hq => ?_⟩
  · refine ⟨_, hq, fun r' R' hq => ?_⟩; obtain ⟨q1, q0, a1, a2, a3, a4⟩ := hq
    exact ⟨q1, q0, n_like h a1 a2 a3 a4⟩
  · obtain ⟨rfl, rfl, hq⟩ := hq; refine ⟨_, hq, fun r' R' hq => ?_⟩
    rcases hq with rfl
    exact ⟨by rw [ux_s]; decide, n_00 h _⟩
theorem v_ask {i : Int} {C R : MM} {p1 : Int} (i0 : 0 ≤ i) (i1 : i ≤ 600) (h : Ral i C R) : ∃ Q1 X1, w_X11_ask Q1 X1 p1 C ∧ (∀ r C', Q1 r C' → ∃ Q0, w_X12_ask Q0 p1 R ∧ ∀ r' R', Q0 r' R' → r = r' ∧ R' 0 0 = 0 ∧ Ral (i + 1) C' R') ∧ ∀ E C', X1 E C' → ∃ Q0, w_X12_ask Q0 p1 R ∧ ∀ r' R', Q0 r' R' → (E, R' 0 0) ∈ ([("java/lang/IndexOutOfBoundsException", 1), ("java/lang/IllegalArgumentException", 2)] : List (String × Int)) ∧ Ral (i + 1) C' R' := by
  obtain ⟨hD, hK, hG, hF, hL, hA, hP, hU, hX, h36, n1, n2, hN⟩ := id h
  refine ⟨_, _, t_ask hD hK hX (by omega) (by omega), fun r C' hq => ?_, fun E C' hq => ?_⟩
  · refine ⟨_, hq, fun r' R' hq => ?_⟩; obtain ⟨q1, q0, a1, a2, a3, a4, a5, a6⟩ := hq
    exact ⟨q1, q0, n_ask h a1 a2 a3 a4 a5 a6⟩
  · refine ⟨_, hq, fun r' R' hq => ?_⟩
    rcases hq with ⟨rfl, rfl, rfl⟩ | ⟨rfl, q0, a1, a2, a3, a4, a5, a6⟩
    · exact ⟨by rw [ux_s]; decide, n_00 h _⟩
    · exact ⟨by rw [q0]; decide, n_ask h a1 a2 a3 a4 a5 a6⟩
theorem v_answer {i : Int} {C R : MM} {p1 p2 : Int} (i0 : 0 ≤ i) (i1 : i ≤ 600) (h : Ral i C R) : ∃ Q1 X1, w_X11_answer Q1 X1 p1 p2 C ∧ (∀ r C', Q1 r C' → ∃ Q0, w_X12_answer Q0 p1 p2 R ∧ ∀ r' R', Q0 r' R' → r = r' ∧ R' 0 0 = 0 ∧ Ral (i + 1) C' R') ∧ ∀ E C', X1 E C' → ∃ Q0, w_X12_answer Q0 p1 p2 R ∧ ∀ r' R', Q0 r' R' → (E, R' 0 0) ∈ ([("java/util/NoSuchElementException", 1)] : List (String × Int)) ∧ Ral (i + 1) C' R' := by
  obtain ⟨hD, hK, hG, hF, hL, hA, hP, hU, hX, h36, n1, n2, hN⟩ := id h
  refine ⟨_, _, t_answer hA, fun r C' hq => ?_, fun E C' hq => ?_⟩
  · obtain ⟨rfl, hq⟩ := hq; refine ⟨_, hq, fun r' R' hq => ?_⟩; obtain ⟨q1, rfl⟩ := hq
    exact ⟨q1, ux_s _ _ _ _, n_00 h 0⟩
  · obtain ⟨rfl, rfl, hq⟩ := hq; refine ⟨_, hq, fun r' R' hq => ?_⟩
    rcases hq with rfl
    exact ⟨by rw [ux_s]; decide, n_00 h _⟩
theorem v_rules {i : Int} {C R : MM} {p1 : Int} (i0 : 0 ≤ i) (i1 : i ≤ 600) (h : Ral i C R) : ∃ Q1 X1, w_X11_rules Q1 X1 p1 C ∧ (∀ r C', Q1 r C' → ∃ Q0, w_X12_rules Q0 p1 R ∧ ∀ r' R', Q0 r' R' → r = r' ∧ R' 0 0 = 0 ∧ Ral (i + 1) C' R') ∧ ∀ E C', X1 E C' → ∃ Q0, w_X12_rules Q0 p1 R ∧ ∀ r' R', Q0 r' R' → (E, R' 0 0) ∈ ([("java/lang/IndexOutOfBoundsException", 1), ("java/lang/IllegalStateException", 2), ("java/lang/IllegalArgumentException", 3)] : List (String × Int)) ∧ Ral (i + 1) C' R' := by
  obtain ⟨hD, hK, hG, hF, hL, hA, hP, hU, hX, h36, n1, n2, hN⟩ := id h
  refine ⟨_, _, t_rules hD hK n1 n2 hN hU, fun r C' hq => ?_, fun E C' hq => ?_⟩
  · refine ⟨_, hq, fun r' R' hq => ?_⟩; obtain ⟨q1, q0, a1, a2, a3, a4, a5⟩ := hq
    exact ⟨q1, q0, n_rules h a1 a2 a3 a4 a5⟩
  · refine ⟨_, hq, fun r' R' hq => ?_⟩
    rcases hq with ⟨rfl, rfl, rfl⟩ | ⟨rfl, rfl, rfl⟩ | ⟨rfl, q0, a1, a2, a3, a4, a5⟩
    · exact ⟨by rw [ux_s]; decide, n_00 h _⟩
    · exact ⟨by rw [ux_s]; decide, n_00 h _⟩
    · exact ⟨by rw [q0]; decide, n_rules h a1 a2 a3 a4 a5⟩
theorem v_facts {i : Int} {C R : MM} {p1 : Int} (i0 : 0 ≤ i) (i1 : i ≤ 600) (h : Ral i C R) : ∃ Q1, w_X11_facts Q1 p1 C ∧ ∀ r C', Q1 r C' → ∃ Q0, w_X12_facts Q0 p1 R ∧ ∀ r' R', Q0 r' R' → r = r' ∧ Ral (i + 1) C' R' := by
  obtain ⟨hD, hK, hG, hF, hL, hA, hP, hU, hX, h36, n1, n2, hN⟩ := id h
  refine ⟨_, t_facts hU, fun r C' hq => ?_⟩
  obtain ⟨rfl, hq⟩ := hq; refine ⟨_, hq, fun r' R' hq => ?_⟩; obtain ⟨q1, rfl⟩ := hq
  exact ⟨q1, n_00 h 0⟩
theorem v_isFact {i : Int} {C R : MM} {p1 p2 p3 : Int} (i0 : 0 ≤ i) (i1 : i ≤ 600) (h : Ral i C R) : ∃ Q1 X1, w_X11_isFact Q1 X1 p1 p2 p3 C ∧ (∀ r C', Q1 r C' → ∃ Q0, w_X12_isFact Q0 p1 p2 p3 R ∧ ∀ r' R', Q0 r' R' → r = r' ∧ R' 0 0 = 0 ∧ Ral (i + 1) C' R') ∧ ∀ E C', X1 E C' → ∃ Q0, w_X12_isFact Q0 p1 p2 p3 R ∧ ∀ r' R', Q0 r' R' → (E, R' 0 0) ∈ ([("java/util/NoSuchElementException", 1)] : List (String × Int)) ∧ Ral (i + 1) C' R' := by
  obtain ⟨hD, hK, hG, hF, hL, hA, hP, hU, hX, h36, n1, n2, hN⟩ := id h
  refine ⟨_, _, t_isFact hU, fun r C' hq => ?_, fun E C' hq => ?_⟩
  · obtain ⟨rfl, hq⟩ := hq; refine ⟨_, hq, fun r' R' hq => ?_⟩; obtain ⟨q1, rfl⟩ := hq
    exact ⟨q1, ux_s _ _ _ _, n_00 h 0⟩
  · obtain ⟨rfl, rfl, hq⟩ := hq; refine ⟨_, hq, fun r' R' hq => ?_⟩
    rcases hq with rfl
    exact ⟨by rw [ux_s]; decide, n_00 h _⟩
theorem v_fault {i : Int} {C R : MM} {p1 : Int} (i0 : 0 ≤ i) (i1 : i ≤ 600) (h : Ral i C R) : ∃ Q1, w_X11_fault Q1 p1 C ∧ ∀ r C', Q1 r C' → ∃ Q0, w_X12_fault Q0 p1 R ∧ ∀ r' R', Q0 r' R' → r = r' ∧ Ral (i + 1) C' R' := by
  obtain ⟨hD, hK, hG, hF, hL, hA, hP, hU, hX, h36, n1, n2, hN⟩ := id h
  refine ⟨_, t_fault hF, fun r C' hq => ?_⟩
  obtain ⟨rfl, hq⟩ := hq; refine ⟨_, hq, fun r' R' hq => ?_⟩; obtain ⟨q1, rfl⟩ := hq
  exact ⟨q1, n_00 h 0⟩
theorem v_bytes {i : Int} {C R : MM} {p1 : Int} (i0 : 0 ≤ i) (i1 : i ≤ 600) (h : Ral i C R) : ∃ Q1 X1, w_X11_bytes Q1 X1 p1 C ∧ (∀ r C', Q1 r C' → ∃ Q0, w_X12_bytes Q0 p1 R ∧ ∀ r' R', Q0 r' R' → r = r' ∧ R' 0 0 = 0 ∧ Ral (i + 1) C' R') ∧ ∀ E C', X1 E C' → ∃ Q0, w_X12_bytes Q0 p1 R ∧ ∀ r' R', Q0 r' R' → (E, R' 0 0) ∈ ([("java/lang/IndexOutOfBoundsException", 1), ("java/lang/IllegalStateException", 2)] : List (String × Int)) ∧ Ral (i + 1) C' R' := by
  obtain ⟨hD, hK, hG, hF, hL, hA, hP, hU, hX, h36, n1, n2, hN⟩ := id h
  refine ⟨_, _, t_bytes hD, fun r C' hq => ?_, fun E C' hq => ?_⟩
  · refine ⟨_, hq, fun r' R' hq => ?_⟩; obtain ⟨q1, q0, a1, a2, a3⟩ := hq
    exact ⟨q1, q0, n_bytes h a1 a2 a3⟩
  · refine ⟨_, hq, fun r' R' hq => ?_⟩
    rcases hq with ⟨⟨rfl, q0⟩ | ⟨rfl, q0⟩, a1, a2, a3⟩
    · exact ⟨by rw [q0]; decide, n_bytes h a1 a2 a3⟩
    · exact ⟨by rw [q0]; decide, n_bytes h a1 a2 a3⟩
theorem v_letter {i : Int} {C R : MM} {p1 : Int} (i0 : 0 ≤ i) (i1 : i ≤ 600) (h : Ral i C R) : ∃ Q1, w_X11_letter Q1 p1 C ∧ ∀ r C', Q1 r C' → ∃ Q0, w_X12_letter Q0 p1 R ∧ ∀ r' R', Q0 r' R' → r = r' ∧ Ral (i + 1) C' R' := by
  obtain ⟨hD, hK, hG, hF, hL, hA, hP, hU, hX, h36, n1, n2, hN⟩ := id h
  refine ⟨_, u_letter (Ral_B h).1, fun r C' hq => ?_⟩
  obtain ⟨rfl, hq⟩ := hq; refine ⟨_, hq, fun r' R' hq => ?_⟩; obtain ⟨q1, rfl⟩ := hq
  exact ⟨q1, n_00 h 0⟩
theorem v_load {i : Int} {C R : MM} {p1 : Int} (i0 : 0 ≤ i) (i1 : i ≤ 600) (h : Ral i C R) : ∃ Q1 X1, w_X11_load Q1 X1 p1 C ∧ (∀ r C', Q1 r C' → ∃ Q0, w_X12_load Q0 p1 R ∧ ∀ r' R', Q0 r' R' → r = r' ∧ R' 0 0 = 0 ∧ Ral (i + 1) C' R') ∧ ∀ E C', X1 E C' → ∃ Q0, w_X12_load Q0 p1 R ∧ ∀ r' R', Q0 r' R' → (E, R' 0 0) ∈ ([("java/lang/IndexOutOfBoundsException", 1), ("java/lang/IllegalArgumentException", 2)] : List (String × Int)) ∧ Ral (i + 1) C' R' := by
  obtain ⟨hD, hK, hG, hF, hL, hA, hP, hU, hX, h36, n1, n2, hN⟩ := id h
  refine ⟨_, _, u_load hD, fun r C' hq => ?_, fun E C' hq => ?_⟩
  · refine ⟨_, hq, fun r' R' hq => ?_⟩; obtain ⟨q1, q0, a1, a2, a3, a4, a5⟩ := hq
    exact ⟨q1, q0, n_load h a1 a2 a3 a4 a5⟩
  · refine ⟨_, hq, fun r' R' hq => ?_⟩
    rcases hq with ⟨rfl, rfl, rfl⟩ | ⟨rfl, q0, a1, a2, a3, a4, a5⟩
    · exact ⟨by rw [ux_s]; decide, n_00 h _⟩
    · exact ⟨by rw [q0]; decide, n_load h a1 a2 a3 a4 a5⟩
theorem v_keep {i : Int} {C R : MM} {p1 : Int} (i0 : 0 ≤ i) (i1 : i ≤ 600) (h : Ral i C R) : ∃ Q1 X1, w_X11_keep Q1 X1 p1 C ∧ (∀ r C', Q1 r C' → ∃ Q0, w_X12_keep Q0 p1 R ∧ ∀ r' R', Q0 r' R' → r = r' ∧ R' 0 0 = 0 ∧ Ral (i + 1) C' R') ∧ ∀ E C', X1 E C' → ∃ Q0, w_X12_keep Q0 p1 R ∧ ∀ r' R', Q0 r' R' → (E, R' 0 0) ∈ ([("java/lang/IndexOutOfBoundsException", 1), ("java/lang/IllegalStateException", 2)] : List (String × Int)) ∧ Ral (i + 1) C' R' := by
  obtain ⟨hD, hK, hG, hF, hL, hA, hP, hU, hX, h36, n1, n2, hN⟩ := id h
  refine ⟨_, _, t_keep hD hL, fun r C' hq => ?_, fun E C' hq => ?_⟩
  · refine ⟨_, hq, fun r' R' hq => ?_⟩; obtain ⟨q1, q0, a1, a2, a3, a4⟩ := hq
    exact ⟨q1, q0, n_keep h a1 a2 a3 a4⟩
  · refine ⟨_, hq, fun r' R' hq => ?_⟩
    rcases hq with ⟨⟨rfl, q0⟩ | ⟨rfl, q0⟩, a1, a2, a3, a4⟩
    · exact ⟨by rw [q0]; decide, n_keep h a1 a2 a3 a4⟩
    · exact ⟨by rw [q0]; decide, n_keep h a1 a2 a3 a4⟩
theorem v_reopen {i : Int} {C R : MM} {p1 : Int} (i0 : 0 ≤ i) (i1 : i ≤ 600) (h : Ral i C R) : ∃ Q1, w_X11_reopen Q1 p1 C ∧ ∀ r C', Q1 r C' → ∃ Q0, w_X12_reopen Q0 p1 R ∧ ∀ r' R', Q0 r' R' → r = r' ∧ Ral (i + 1) C' R' := by
  obtain ⟨hD, hK, hG, hF, hL, hA, hP, hU, hX, h36, n1, n2, hN⟩ := id h
  refine ⟨_, t_reopen hD hL, fun r C' hq => ?_⟩
  refine ⟨_, hq, fun r' R' hq => ?_⟩; obtain ⟨q1, q0, a1, a2, a3, a4⟩ := hq
  exact ⟨q1, n_reopen h a1 a2 a3 a4⟩
theorem v_recall {i : Int} {C R : MM} {p1 p2 : Int} (i0 : 0 ≤ i) (i1 : i ≤ 600) (h : Ral i C R) : ∃ Q1 X1, w_X11_recall Q1 X1 p1 p2 C ∧ (∀ r C', Q1 r C' → ∃ Q0, w_X12_recall Q0 p1 p2 R ∧ ∀ r' R', Q0 r' R' → r = r' ∧ R' 0 0 = 0 ∧ Ral (i + 1) C' R') ∧ ∀ E C', X1 E C' → ∃ Q0, w_X12_recall Q0 p1 p2 R ∧ ∀ r' R', Q0 r' R' → (E, R' 0 0) ∈ ([("java/lang/IndexOutOfBoundsException", 1), ("java/util/NoSuchElementException", 2)] : List (String × Int)) ∧ Ral (i + 1) C' R' := by
  obtain ⟨hD, hK, hG, hF, hL, hA, hP, hU, hX, h36, n1, n2, hN⟩ := id h
  refine ⟨_, _, t_recall hD hL, fun r C' hq => ?_, fun E C' hq => ?_⟩
  · refine ⟨_, hq, fun r' R' hq => ?_⟩; obtain ⟨q1, q0, a1, a2, a3⟩ := hq
    exact ⟨q1, q0, n_recall h a1 a2 a3⟩
  · refine ⟨_, hq, fun r' R' hq => ?_⟩
    rcases hq with ⟨rfl, ⟨rfl, rfl⟩ | ⟨rfl, rfl⟩⟩
    · exact ⟨by rw [ux_s]; decide, n_00 h _⟩
    · exact ⟨by rw [ux_s]; decide, n_00 h _⟩
theorem v_about {i : Int} {C R : MM} {p1 : Int} (i0 : 0 ≤ i) (i1 : i ≤ 600) (h : Ral i C R) : ∃ Q1, w_X11_about Q1 p1 C ∧ ∀ r C', Q1 r C' → ∃ Q0, w_X12_about Q0 p1 R ∧ ∀ r' R', Q0 r' R' → r = r' ∧ Ral (i + 1) C' R' := by
  obtain ⟨hD, hK, hG, hF, hL, hA, hP, hU, hX, h36, n1, n2, hN⟩ := id h
  refine ⟨_, t_about hD hL.2.1 hL.1 hP.1 hA.1 hU.1, fun r C' hq => ?_⟩
  obtain ⟨rfl, hq⟩ := hq; refine ⟨_, hq, fun r' R' hq => ?_⟩; obtain ⟨q1, rfl⟩ := hq
  exact ⟨q1, n_00 h 0⟩
