/-! questions worked out: acts over two values -/
theorem c_two {Q : Int → MM → Prop} {M : MM} {tp o so1 v1 so2 v2 : Int} (h6 : M 219 6 = tp + 2) (hs1 : M 220 tp = so1) (hv1 : M 221 tp = v1) (hs2 : M 220 (tp + 1) = so2) (hv2 : M 221 (tp + 1) = v2) (t0 : 0 ≤ tp) (t1 : tp + 1 < 121)
    (H : ∀ M5, M5 = ux_ M 219 6 tp → (o = 16 ∨ o = 17 → w_X4_compare (fun _ M => Q 0 M) o so1 so2 (if v1 = v2 then 1 else 0) M5) ∧ (o ≠ 16 → o ≠ 17 → so2 ≠ 0 → w_X4_push (fun _ M => Q 0 M) 4 0 M5) ∧ (o = 15 → so2 = 0 → so1 = 2 → ri_ v1 ∧ w_X4_pushElement (fun _ M => Q 0 M) v1 v2 M5) ∧ (o = 15 → so2 = 0 → so1 ≠ 2 → w_X4_push (fun _ M => Q 0 M) 4 0 M5) ∧ (o ≠ 15 → o ≠ 16 → o ≠ 17 → so2 = 0 → so1 = 0 → w_X4_reckon (fun _ M => Q 0 M) o v1 v2 M5) ∧ (o ≠ 15 → o ≠ 16 → o ≠ 17 → so2 = 0 → so1 ≠ 0 → w_X4_push (fun _ M => Q 0 M) 4 0 M5)) : w_X4_doTwo Q o M := by
  unfold w_X4_doTwo
  refine fun w1 e1 _ => ⟨fun z w3 e3 _ => ⟨by unfold ri_; omega, fun M5 e5 w6 e6 _ => ?_⟩, fun z => by omega⟩
  have a3 : w3 - 2 = tp := by omega
  rw [a3] at e5
  obtain ⟨H1, H2, H3, H4, H5, H6⟩ := H M5 e5
  have top : M5 219 6 = tp := by rw [e5, ux_s]
  have r0 : M5 220 = M 220 := by rw [e5]; exact ux_g _ _ _ (by decide)
  have r1 : M5 221 = M 221 := by rw [e5]; exact ux_g _ _ _ (by decide)
  rw [top] at e6
  refine ⟨by omega, by omega, fun w7 e7 _ w8 e8 _ => ?_⟩
  rw [top] at e8
  refine ⟨by unfold ri_; omega, by omega, by omega, fun w10 e10 _ w11 e11 _ => ?_⟩
  rw [top] at e11
  refine ⟨by omega, by omega, fun w12 e12 _ w13 e13 _ => ?_⟩
  rw [top] at e13
  refine ⟨by unfold ri_; omega, by omega, by omega, fun w15 e15 _ => ?_⟩
  rw [r0, e6, hs1] at e7
  rw [r0, e8, hs2] at e10
  rw [r1, e11, hv1] at e12
  rw [r1, e13, hv2] at e15
  rw [e7, e10, e12, e15]
  have cmp : o = 16 ∨ o = 17 → w_X4_doTwo_b77 Q o so1 so2 v1 v2 M5 := fun ho => by
    have h := H1 ho
    unfold w_X4_doTwo_b77 w_X4_doTwo_b94
    refine ⟨fun z => ⟨Or.inl rfl, ?_⟩, fun z => ⟨Or.inr rfl, ?_⟩⟩
    · rw [if_neg z] at h; exact h
    · rw [if_pos z] at h; exact h
  refine ⟨fun z => cmp (Or.inl z), fun z => ⟨fun z2 => ⟨fun z3 => ⟨fun z4 => ?_, fun z4 => ⟨fun z5 => ?_, fun z5 => H3 z4 z3 z5⟩⟩, fun z3 => H2 z z2 z3⟩, fun z2 => cmp (Or.inr z2)⟩⟩
  · unfold w_X4_doTwo_b136 w_X4_doTwo_b158
    exact ⟨fun z5 => absurd z5 z4, fun _ => ⟨fun z6 => H6 z4 z z2 z3 z6, fun z6 => H5 z4 z z2 z3 z6⟩⟩
  · unfold w_X4_doTwo_b136 w_X4_doTwo_b158
    exact ⟨fun _ => H4 z4 z3 z5, fun z6 => absurd z4 z6⟩
