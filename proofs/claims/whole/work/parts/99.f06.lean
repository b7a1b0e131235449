/-! the law's world: the class, the reference, the row for answers -/
def ftJ (ci : Nat) : List (Nat × Nat) := if ci = 15 then ftR ci else ftC ci
def ksK : List (Nat × Nat) := ksC ++ (ksR ++ [(1, 1)])
theorem lnC : ksC.length = 286 := by decide +kernel
theorem lnR : ksR.length = 103 := by decide +kernel
theorem lnK : ksK.length = 390 := by
  unfold ksK
  rw [List.length_append, List.length_append, lnC, lnR]
  rfl
theorem oCj : ∀ k ∈ ksC, 6 ≤ k.1 → k.2 ≠ 15 := by decide +kernel
theorem oRj : ∀ k ∈ ksR, k.1 ≠ 4 ∧ k.1 ≠ 5 ∧ (6 ≤ k.1 → k.2 = 15) := by decide +kernel
theorem oRj2 : ∀ f ∈ ftR 15, f.1 ≠ 3 ∧ f.1 < 5 := by decide +kernel
theorem fstJ : jFst ftC ftJ ksC ksK := by
  refine ⟨fun c k h => ?_, fun c k h h6 => ?_, by rw [lnC, lnK]; decide⟩
  · unfold ksK
    rw [List.getElem?_append_left (List.getElem?_eq_some_iff.mp h).1]
    exact h
  · unfold ftJ
    rw [if_neg (oCj k (List.mem_of_getElem? h) h6)]
theorem ofsJ : jOfs 286 ftR ftJ ksR ksK := by
  refine ⟨fun c k h => ?_, by rw [lnR, lnK]; decide⟩
  have hc := (List.getElem?_eq_some_iff.mp h).1
  obtain ⟨o1, o2, o3⟩ := oRj k (List.mem_of_getElem? h)
  refine ⟨?_, fun h6 => ?_, o1, o2, fun h6 => ?_⟩
  · unfold ksK
    rw [List.getElem?_append_right (by rw [lnC]; omega), lnC, show 286 + c - 286 = c from by omega, List.getElem?_append_left hc]
    exact h
  · unfold ftJ
    rw [if_pos (o3 h6)]
  · rw [o3 h6]; exact oRj2
theorem kK_out : ksK[389]? = some (1, 1) := by
  unfold ksK
  rw [List.getElem?_append_right (by rw [lnC]; decide), lnC, List.getElem?_append_right (by rw [lnR]; decide), lnR]
  rfl
