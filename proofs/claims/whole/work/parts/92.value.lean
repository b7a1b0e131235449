/-! which values a slot takes, on both sides -/
theorem sh7 : jlshl 1 7 = 128 ∧ w64 (-(jlshl 1 7)) = -128 := by decide
theorem sh15 : jlshl 1 15 = 32768 ∧ w64 (-(jlshl 1 15)) = -32768 := by decide
theorem sh31 : jlshl 1 31 = 2147483648 ∧ w64 (-(jlshl 1 31)) = -2147483648 := by decide
theorem p_isNumber {Q : Int → MM → Prop} {k v : Int} {M : MM} (k0 : 0 ≤ k) (k5 : k < 5) (h1 : vN k v → Q 1 M) (h0 : ¬ vN k v → Q 0 M) : w_X10_isNumber Q k v M := by
  unfold w_X10_isNumber
  have hk : k = 0 ∨ k = 1 ∨ k = 2 ∨ k = 3 ∨ k = 4 := by omega
  unfold vN at h1 h0
  rcases hk with rfl | rfl | rfl | rfl | rfl
  · exact ⟨fun q => absurd rfl q, fun _ => ⟨fun z => h1 (by omega), fun z => ⟨fun z2 => h0 (by omega), fun z2 => h1 (by omega)⟩⟩⟩
  · refine ⟨fun _ => ⟨by omega, by omega, by unfold ri_; decide, fun q => absurd q (by decide), fun _ => ⟨by unfold ri_; decide, ?_⟩⟩, fun q => by omega⟩
    rw [show (8 * wdt (1 : Int).toNat - 1) = 7 from rfl, sh7.2, sh7.1]
    exact ⟨fun z => h0 (by omega), fun z => ⟨by unfold ri_; decide, fun z2 => h0 (by omega), fun z2 => h1 (by omega)⟩⟩
  · refine ⟨fun _ => ⟨by omega, by omega, by unfold ri_; decide, fun q => absurd q (by decide), fun _ => ⟨by unfold ri_; decide, ?_⟩⟩, fun q => by omega⟩
    rw [show (8 * wdt (2 : Int).toNat - 1) = 15 from rfl, sh15.2, sh15.1]
    exact ⟨fun z => h0 (by omega), fun z => ⟨by unfold ri_; decide, fun z2 => h0 (by omega), fun z2 => h1 (by omega)⟩⟩
  · refine ⟨fun _ => ⟨by omega, by omega, by unfold ri_; decide, fun q => absurd q (by decide), fun _ => ⟨by unfold ri_; decide, ?_⟩⟩, fun q => by omega⟩
    rw [show (8 * wdt (3 : Int).toNat - 1) = 31 from rfl, sh31.2, sh31.1]
    exact ⟨fun z => h0 (by omega), fun z => ⟨by unfold ri_; decide, fun z2 => h0 (by omega), fun z2 => h1 (by omega)⟩⟩
  · exact ⟨fun _ => ⟨by omega, by omega, by unfold ri_; decide, fun _ => h1 (by omega), fun q => absurd rfl q⟩, fun q => by omega⟩
theorem p_isValue {Q : Int → MM → Prop} {k w v : Int} {C R R0 : MM} (hY : Rty C R0) (hH : Rhp C R) (k0 : 0 ≤ k) (k5 : k ≤ 5) (gw : ri_ w) (h1 : vK C k w v → Q 1 C) (h0 : ¬ vK C k w v → Q 0 C) : w_X2_isValue Q k w v C := by
  have m4 := hH.2.2.1
  unfold w_X2_isValue
  refine ⟨fun z => ?_, fun z => p_isNumber k0 (by omega) (fun q _ => h1 (Or.inr ⟨z, q⟩)) (fun q _ => h0 (fun q2 => by rcases q2 with q2 | q2; exact z q2.1; exact q q2.2))⟩
  have h1' : vL C v w → Q 1 C := fun q => h1 (Or.inl ⟨z, q⟩)
  have h0' : ¬ vL C v w → Q 0 C := fun q => h0 (fun q2 => by rcases q2 with q2 | q2; exact q q2.2; exact q2.1 z)
  refine ⟨fun zn => ⟨fun z2 => h0' (fun q => by rcases q with q | q; omega; have := q.1.1; omega), fun z2 v4 e4 g4 => ?_⟩, fun zn => h1' (Or.inl zn)⟩
  subst e4
  refine ⟨fun z4 => h0' (fun q => by rcases q with q | q; omega; have := q.1.2.1; omega), fun z4 => ⟨by unfold ri_; omega, p_isThere m4 (fun ho _ => ⟨fun q => by omega, fun _ => ⟨by unfold ri_; omega, by omega, by omega, fun v11 e11 g11 => ?_⟩⟩) (fun ho _ => ⟨fun _ => h0' (fun q => by rcases q with q | q; omega; exact ho q.1), fun q => absurd rfl q⟩)⟩⟩
  subst e11
  have hv := ((hH.2.2.2.2.2.2.2.2.2.1 v ho.1 ho.2.1).2 ho.2.2).2.1
  exact p_fits (pOk_of hY) hv gw (fun hf _ => ⟨fun q => by omega, fun _ => h1' (Or.inr ⟨ho, hf⟩)⟩) (fun hf _ => ⟨fun _ => h0' (fun q => by rcases q with q | q; omega; exact hf q.2), fun q => absurd rfl q⟩)
theorem p_R_isOfKind {Q : Int → MM → Prop} {k w v : Int} {C R : MM} (hY : Rty C R) (hH : Rhp C R) (k0 : 0 ≤ k) (k5 : k ≤ 5) (hw : k = 5 → w = -1 ∨ vT (C 8 0) w) (h1 : vK C k w v → Q 1 R) (h0 : ¬ vK C k w v → Q 0 R) : w_X12_isOfKind Q k w v R := by
  have m4 := hH.2.2.1
  have m1 := hH.1
  unfold w_X12_isOfKind
  refine ⟨fun z => ?_, fun z => ?_⟩
  · have h1' : vN k v → Q 1 R := fun q => h1 (Or.inr ⟨z, q⟩)
    have h0' : ¬ vN k v → Q 0 R := fun q => h0 (fun q2 => by rcases q2 with q2 | q2; exact z q2.1; exact q q2.2)
    unfold vN at h1' h0'
    have hk : k = 0 ∨ k = 1 ∨ k = 2 ∨ k = 3 ∨ k = 4 := by omega
    unfold w_X12_isOfKind_b100
    rcases hk with rfl | rfl | rfl | rfl | rfl
    · exact ⟨fun q => absurd rfl q, fun _ => ⟨fun q => absurd rfl q, fun _ => ⟨fun z => h1' (by omega), fun z => ⟨fun z2 => h0' (by omega), fun z2 => h1' (by omega)⟩⟩⟩⟩
    · refine ⟨fun _ => ⟨fun q => absurd rfl q, fun _ => ⟨fun _ => ⟨fun q => by omega, fun _ => ⟨by unfold ri_; decide, ?_⟩⟩, fun q => by omega⟩⟩, fun q => by omega⟩
      rw [show (8 - 1 : Int) = 7 from rfl, sh7.2, sh7.1]
      exact ⟨fun z => h0' (by omega), fun z => ⟨by unfold ri_; decide, fun z2 => h0' (by omega), fun z2 => h1' (by omega)⟩⟩
    · refine ⟨fun _ => ⟨fun _ => ⟨fun q => absurd rfl q, fun _ => ⟨fun _ => ⟨fun q => by omega, fun _ => ⟨by unfold ri_; decide, ?_⟩⟩, fun q => by omega⟩⟩, fun q => by omega⟩, fun q => by omega⟩
      rw [show (16 - 1 : Int) = 15 from rfl, sh15.2, sh15.1]
      exact ⟨fun z => h0' (by omega), fun z => ⟨by unfold ri_; decide, fun z2 => h0' (by omega), fun z2 => h1' (by omega)⟩⟩
    · refine ⟨fun _ => ⟨fun _ => ⟨fun _ => ⟨fun q => absurd rfl q, fun _ => ⟨fun _ => ⟨fun q => by omega, fun _ => ⟨by unfold ri_; decide, ?_⟩⟩, fun q => by omega⟩⟩, fun q => by omega⟩, fun q => by omega⟩, fun q => by omega⟩
      rw [show (32 - 1 : Int) = 31 from rfl, sh31.2, sh31.1]
      exact ⟨fun z => h0' (by omega), fun z => ⟨by unfold ri_; decide, fun z2 => h0' (by omega), fun z2 => h1' (by omega)⟩⟩
    · exact ⟨fun _ => ⟨fun _ => ⟨fun _ => ⟨fun _ => ⟨fun _ => ⟨fun _ => h1' (by omega), fun q => absurd rfl q⟩, fun q => by omega⟩, fun q => by omega⟩, fun q => by omega⟩, fun q => by omega⟩, fun q => by omega⟩
  · have h1' : vL C v w → Q 1 R := fun q => h1 (Or.inl ⟨z, q⟩)
    have h0' : ¬ vL C v w → Q 0 R := fun q => h0 (fun q2 => by rcases q2 with q2 | q2; exact q q2.2; exact q2.1 z)
    refine ⟨fun zn => h1' (Or.inl zn), fun zn => ⟨fun z2 => h0' (fun q => by rcases q with q | q; omega; have := q.1.1; omega), fun z2 v8 e8 g8 => ?_⟩⟩
    rw [← m1] at e8
    subst e8
    refine ⟨fun z4 => h0' (fun q => by rcases q with q | q; omega; have := q.1.2.1; omega), fun z4 => ⟨by unfold ri_; omega, by omega, by omega, fun v11 e11 g11 => ?_⟩⟩
    obtain ⟨r1, r2⟩ := hH.2.2.2.2.2.2.2.2.2.1 v (by omega) (by omega)
    rw [r1] at e11
    by_cases zz : C 27 v = -1
    · rw [if_pos zz] at e11
      exact ⟨fun _ => h0' (fun q => by rcases q with q | q; omega; exact q.1.2.2 zz), fun q => absurd e11 q⟩
    · rw [if_neg zz] at e11
      refine ⟨fun q => by omega, fun _ => ⟨by unfold ri_; omega, by omega, by omega, fun v14 e14 g14 => ?_⟩⟩
      obtain ⟨a1, a2, -⟩ := r2 zz
      rw [← a1] at e14
      subst e14
      exact p_R_fits hY a2 (hw z) (fun hf _ => ⟨fun q => by omega, fun _ => h1' (Or.inr ⟨⟨by omega, by omega, zz⟩, hf⟩)⟩) (fun hf _ => ⟨fun _ => h0' (fun q => by rcases q with q | q; omega; exact hf q.2), fun q => absurd rfl q⟩)
