/-! a text begins: the reference -/
theorem r_begin {C0 R0 R : MM} {E : Nat → Int} {L : Nat} {b : Int} (hT : TX C0 R0 E L) (hF : Fpr b R0 R) {Q : Int → MM → Prop} (hq : ∀ R', (∀ nr_ M7, M7 = ux_ R' 0 95 0 → SR C0 R0 E b 0 0 0 0 0 nr_ M7) → Q 0 R') : w_X12_beginText Q b R := by
  unfold w_X12_beginText
  intro M1 e1 M2 e2 M3 e3 M4 e4 M5 e5 M6 e6 M7 e7
  have hF7 : Fpr b R0 M7 := by
    rw [e7, e6, e5, e4, e3, e2, e1]
    exact Fpr_0 (Fpr_0 (Fpr_0 (Fpr_0 (Fpr_0 (Fpr_0 (Fpr_0 hF _ (by decide)) _ (by decide)) _ (by decide)) _ (by decide)) _ (by decide)) _ (by decide)) _ (by decide)
  have h83 : M7 0 83 = 0 := by rw [e7, ux_i _ _ _ (by decide), e6, ux_i _ _ _ (by decide), e5, ux_s]
  have h91 : M7 0 91 = b := by rw [e7, ux_i _ _ _ (by decide), e6, ux_i _ _ _ (by decide), e5, ux_i _ _ _ (by decide), e4, ux_i _ _ _ (by decide), e3, ux_i _ _ _ (by decide), e2, ux_i _ _ _ (by decide), e1, ux_s]
  have h92 : M7 0 92 = 0 := by rw [e7, ux_i _ _ _ (by decide), e6, ux_i _ _ _ (by decide), e5, ux_i _ _ _ (by decide), e4, ux_i _ _ _ (by decide), e3, ux_i _ _ _ (by decide), e2, ux_s]
  have h93 : M7 0 93 = 0 := by rw [e7, ux_i _ _ _ (by decide), e6, ux_i _ _ _ (by decide), e5, ux_i _ _ _ (by decide), e4, ux_i _ _ _ (by decide), e3, ux_s]
  have h94 : M7 0 94 = 0 := by rw [e7, ux_i _ _ _ (by decide), e6, ux_i _ _ _ (by decide), e5, ux_i _ _ _ (by decide), e4, ux_s]
  have h78 : M7 0 78 = E 0 := by rw [e7, ux_s]; exact hT.1.1.symm
  have hT' := hT
  obtain ⟨t1, t2, t3, t4, t5, t6⟩ := hT
  obtain ⟨s1, s2, s3⟩ := t1.2.2.2.2 0 (Nat.zero_le _)
  refine p_adv (C := C0) (by rw [hF7.2.2 3 (by decide)]; exact t2) t3 (fun i a c => by rw [hF7.1 1 (by decide) (by omega)]; exact t4 i a c) (fun i a c => by rw [hF7.1 3 (by decide) (by omega)]; exact t5 i a c) h78 s1 s3 fun N' f1 f2 f3 f4 => hq N' (fun nr_ M8 e8 => ?_)
  have hw : Wr C0 E 0 N' := ⟨f2, f3, f4⟩
  have sr : SR C0 R0 E b 0 0 0 (N' 0 95) 0 nr_ N' := ⟨Fpr_FA hF7 f1, hw, ⟨by rw [f1.2 83 (by decide)]; exact h83, by rw [f1.2 91 (by decide)]; exact h91, by rw [f1.2 92 (by decide)]; exact h92, by rw [f1.2 93 (by decide)]; exact h93, by rw [f1.2 94 (by decide)]; exact h94, rfl⟩, fun i i0 i1 => by omega⟩
  rw [e8]
  exact SR_95 sr 0
