/-! fault, about, on both sides -/
theorem t_fault {C R : MM} {w : Int} (h : Rft C R) : w_X11_fault (fun r C' => C' = C ∧ w_X12_fault (fun r' R' => r = r' ∧ R' = ux_ R 0 0 0) w R) w C := by
  unfold w_X11_fault w_X12_fault
  refine ⟨fun z => ⟨fun z2 => ⟨rfl, fun M1 e1 => ⟨fun _ => ⟨fun _ => ⟨rfl, e1⟩, fun q => absurd q z2⟩, fun q => absurd q z⟩⟩, fun z2 v3 e3 _ => ⟨rfl, fun M1 e1 => ⟨fun _ => ⟨fun q => absurd z2 q, fun _ v4 e4 _ => ⟨?_, e1⟩⟩, fun q => absurd q z⟩⟩⟩, fun z v4 e4 _ => ⟨rfl, fun M1 e1 => ⟨fun q => absurd z q, fun _ v5 e5 _ => ⟨?_, e1⟩⟩⟩⟩
  · rw [e3, e4, e1, ux_i _ _ _ (by decide)]; exact h.2
  · rw [e4, e5, e1, ux_i _ _ _ (by decide)]; exact h.1
theorem t_about {C R : MM} {w : Int} (h : RD C R) (h7 : C 280 5 = R 0 149) (h8 : C 280 4 = R 0 148) (h10 : C 0 10 = R 0 113) (h11 : C 219 20 = R 0 110) (h12 : C 261 16 = R 0 133) : w_X11_about (fun r C' => C' = C ∧ w_X12_about (fun r' R' => r = r' ∧ R' = ux_ R 0 0 0) w R) w C := by
  obtain ⟨hB, hJ, -⟩ := h
  have hT := hB.1.1
  have hY := hB.1.2.2.2.2
  obtain ⟨p1, p2, p3, p4, p5, p6, p7, p8, p9, p10, p11, p12, p13, p14⟩ := hB.2.2
  obtain ⟨j1, j2, j3, j4⟩ := hJ
  -- the reference
  have ref : ∀ Q : Int → MM → Prop, ((w = 0 → Q (R 0 3) (ux_ R 0 0 0)) ∧ (w = 1 → Q (R 0 20) (ux_ R 0 0 0)) ∧ (w = 2 → Q (ct C (C 26 1).toNat) (ux_ R 0 0 0)) ∧ (w = 3 → Q (R 0 28) (ux_ R 0 0 0)) ∧ (w = 4 → Q (R 0 31) (ux_ R 0 0 0)) ∧ (w = 5 → Q (R 0 29) (ux_ R 0 0 0)) ∧ (w = 6 → Q (R 0 36) (ux_ R 0 0 0)) ∧ (w = 7 → Q (R 0 149) (ux_ R 0 0 0)) ∧ (w = 8 → Q (R 0 148) (ux_ R 0 0 0)) ∧ (w = 9 → Q (R 0 44) (ux_ R 0 0 0)) ∧ (w = 10 → Q (R 0 113) (ux_ R 0 0 0)) ∧ (w = 11 → Q (R 0 110) (ux_ R 0 0 0)) ∧ (w = 12 → Q (R 0 133) (ux_ R 0 0 0)) ∧ (¬ w = 0 ∧ ¬ w = 1 ∧ ¬ w = 2 ∧ ¬ w = 3 ∧ ¬ w = 4 ∧ ¬ w = 5 ∧ ¬ w = 6 ∧ ¬ w = 7 ∧ ¬ w = 8 ∧ ¬ w = 9 ∧ ¬ w = 10 ∧ ¬ w = 11 ∧ ¬ w = 12 → Q (-1) (ux_ R 0 0 0))) → w_X12_about Q w R := fun Q hq => by
    obtain ⟨q0, q1, q2, q3, q4, q5, q6, q7, q8, q9, q10, q11, q12, q13⟩ := hq
    have g : ∀ i, i ≠ 0 → ux_ R 0 0 0 0 i = R 0 i := fun i hi => ux_i _ _ _ hi
    unfold w_X12_about
    intro M1 e1
    subst e1
    unfold w_X12_about_b9
    refine loop4 _ (fun (a x k : Int) M => w = a ∧ ux_ R 0 0 0 = M ∧ 0 ≤ k ∧ k ≤ C 26 1 ∧ x = ct C k.toNat) (fun (_ _ k : Int) _ => (C 26 1 - k).toNat) ?_ _ _ _ _ ⟨rfl, rfl, by omega, p2, rfl⟩
    rintro _ x k _ f ⟨rfl, rfl, k0, k1, ex⟩ ih
    unfold wb_X12_about_b9
    intro v1 e1 _
    rw [g 26 (by decide), ← p1] at e1
    refine ⟨fun z => ⟨fun y v e _ => ?_, fun y v e _ => ?_, fun y => ?_, fun y v e _ => ?_, fun y v e _ => ?_, fun y v e _ => ?_, fun y v e _ => ?_, fun y v e _ => ?_, fun y v e _ => ?_, fun y v e _ => ?_, fun y v e _ => ?_, fun y v e _ => ?_, fun y v e _ => ?_, q13⟩, fun z => ⟨k0, by omega, fun v29 e29 _ => ?_⟩⟩
    · rw [e, g 3 (by decide)]; exact q0 y
    · rw [e, g 20 (by decide)]; exact q1 y
    · rw [ex, show k.toNat = (C 26 1).toNat from by omega]; exact q2 y
    · rw [e, g 28 (by decide)]; exact q3 y
    · rw [e, g 31 (by decide)]; exact q4 y
    · rw [e, g 29 (by decide)]; exact q5 y
    · rw [e, g 36 (by decide)]; exact q6 y
    · rw [e, g 149 (by decide)]; exact q7 y
    · rw [e, g 148 (by decide)]; exact q8 y
    · rw [e, g 44 (by decide)]; exact q9 y
    · rw [e, g 113 (by decide)]; exact q10 y
    · rw [e, g 110 (by decide)]; exact q11 y
    · rw [e, g 133 (by decide)]; exact q12 y
    · rw [ux_c _ _ _ _ (by decide), (p10 k k0 (by omega)).1] at e29
      have cb := ct_bd C k.toNat
      have cs : ct C (k.toNat + 1) = ct C k.toNat + (if C 27 (k.toNat : Nat) = -1 then 0 else 1) := rfl
      rw [show ((k.toNat : Nat) : Int) = k from by omega] at cs
      unfold w_X12_about_b32
      refine ⟨fun y => ⟨by unfold ri_; omega, by unfold ri_; omega, ih _ _ _ _ ⟨rfl, rfl, by omega, by omega, ?_⟩ (by omega)⟩, fun y => ⟨by unfold ri_; omega, by unfold ri_; omega, ih _ _ _ _ ⟨rfl, rfl, by omega, by omega, ?_⟩ (by omega)⟩⟩
      · rw [show (k + 1).toNat = k.toNat + 1 from by omega, cs]
        by_cases u : C 27 k = -1
        · rw [if_pos u]; omega
        · rw [if_neg u] at e29; omega
      · rw [show (k + 1).toNat = k.toNat + 1 from by omega, cs]
        by_cases u : C 27 k = -1
        · rw [if_pos u] at e29; omega
        · rw [if_neg u]; omega
  have go : ∀ r, ((w = 0 → r = R 0 3) ∧ (w = 1 → r = R 0 20) ∧ (w = 2 → r = ct C (C 26 1).toNat) ∧ (w = 3 → r = R 0 28) ∧ (w = 4 → r = R 0 31) ∧ (w = 5 → r = R 0 29) ∧ (w = 6 → r = R 0 36) ∧ (w = 7 → r = R 0 149) ∧ (w = 8 → r = R 0 148) ∧ (w = 9 → r = R 0 44) ∧ (w = 10 → r = R 0 113) ∧ (w = 11 → r = R 0 110) ∧ (w = 12 → r = R 0 133) ∧ (¬ w = 0 ∧ ¬ w = 1 ∧ ¬ w = 2 ∧ ¬ w = 3 ∧ ¬ w = 4 ∧ ¬ w = 5 ∧ ¬ w = 6 ∧ ¬ w = 7 ∧ ¬ w = 8 ∧ ¬ w = 9 ∧ ¬ w = 10 ∧ ¬ w = 11 ∧ ¬ w = 12 → r = -1)) → C = C ∧ w_X12_about (fun r' R' => r = r' ∧ R' = ux_ R 0 0 0) w R := fun r hr => by
    obtain ⟨q0, q1, q2, q3, q4, q5, q6, q7, q8, q9, q10, q11, q12, q13⟩ := hr
    exact ⟨rfl, ref _ ⟨fun y => ⟨q0 y, rfl⟩, fun y => ⟨q1 y, rfl⟩, fun y => ⟨q2 y, rfl⟩, fun y => ⟨q3 y, rfl⟩, fun y => ⟨q4 y, rfl⟩, fun y => ⟨q5 y, rfl⟩, fun y => ⟨q6 y, rfl⟩, fun y => ⟨q7 y, rfl⟩, fun y => ⟨q8 y, rfl⟩, fun y => ⟨q9 y, rfl⟩, fun y => ⟨q10 y, rfl⟩, fun y => ⟨q11 y, rfl⟩, fun y => ⟨q12 y, rfl⟩, fun y => ⟨q13 y, rfl⟩⟩⟩
  have hud := j3.2.2.2.2.1
  have hwt := j4.1
  have hrt := p12.1
  have y1 := hY.1
  have t1 := hT.1
  unfold w_X11_about
  refine ⟨fun z v e _ => go v ?_, fun z v e _ => go v ?_, fun z v e _ => go v ?_, fun z v e _ => go v ?_, fun z v e _ => go v ?_, fun z v e _ => go v ?_, fun z v e _ => go v ?_, fun z v e _ => go v ?_, fun z v e _ => go v ?_, fun z v e _ => go v ?_, fun z v e _ => go v ?_, fun z v e _ => go v ?_, fun z v e _ => go v ?_, fun z => go (-1) ?_⟩
  all_goals (refine ⟨fun _ => ?_, fun _ => ?_, fun _ => ?_, fun _ => ?_, fun _ => ?_, fun _ => ?_, fun _ => ?_, fun _ => ?_, fun _ => ?_, fun _ => ?_, fun _ => ?_, fun _ => ?_, fun _ => ?_, fun _ => ?_⟩ <;> omega)
