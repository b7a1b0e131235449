/-! rules worked out by the reference: from the read rules to the least relations -/
theorem p_b94 {D A R : MM} {c : Nat} {p : Int} (hw : PW D c) (p0 : 0 ≤ p) (p5 : p < 5) (oA : OKW A) (n40 : D c 0 ≤ 40) (hY : Rty D R) (hb : Rpb D R c p) (h83 : ∀ i, 0 ≤ i → i < A 261 16 → R 83 i = A 273 i) (h133 : R 0 133 = A 261 16) (h134 : R 0 134 = A 261 3) (hR : ∀ j, 0 ≤ j → j < A 261 3 → RLq A R j) {Q : Int → MM → Prop} (hq : ∀ R1 R', FWj R R' → R' 0 0 = 0 → (∀ i, 0 ≤ i → i < 240 → R1 94 i = 0) → (∀ i, 0 ≤ i → i < 1600 * A 261 16 → R1 95 i = 0) → OutJ A (D c 0) R1 R' → LstK A (D c 0) (clD D c A) (K0_ D c) (FRk A (D c 0) R') → w_X12_rules_b238 Q 0 0 R') : w_X12_rules_b94 Q p 0 R := by
  have k6 := oA.2.1
  have k0 := oA.1
  unfold w_X12_rules_b94
  intro M1 e1 v2 e2 _
  refine ⟨fun _ M4 e4 => ?_, fun z => ?_⟩
  rotate_left
  · rw [e2, e1, ux_s] at z; omega
  have o4 : ∀ k, k ≠ 0 → M4 k = R k := fun k a => by rw [e4, ux_g _ _ _ a, e1, ux_g _ _ _ a]
  have i4 : ∀ i, i ≠ 0 → i ≠ 97 → M4 0 i = R 0 i := fun i a b => by rw [e4, ux_i _ _ _ b, e1, ux_i _ _ _ a]
  have y4 : Rty D M4 := Rty_R hY (fun k _ _ _ => o4 k (by omega)) (i4 20 (by decide) (by decide))
  refine p_fLk y4 hw (Rpb_e hb (fun k _ _ => o4 k (by omega))) p0 p5 n40 (fun M5 o5 l5 => ?_)
  unfold w_X12_rules_b123
  refine loop2 _ (fun (x : Int) M => 0 ≤ x ∧ x ≤ 240 ∧ (∀ k, k ≠ 94 → M k = M5 k) ∧ ∀ i, 0 ≤ i → i < x → M 94 i = 0) (fun x _ => (240 - x).toNat) ?_ _ _ ⟨by omega, by omega, fun _ _ => rfl, fun i _ _ => by omega⟩
  rintro x M f ⟨x0, x1, oM, zM⟩ ih
  unfold wb_X12_rules_b123
  refine ⟨fun w => ?_, fun w => ⟨x0, by omega, fun M2 e2' => ⟨by unfold ri_; omega, ih _ _ ⟨by omega, by omega, fun k a => by rw [e2', ux_g _ _ _ a]; exact oM k a, fun i i0 i1 => ?_⟩ (by omega)⟩⟩⟩
  rotate_left
  · rw [e2', ux_v]
    split
    · rfl
    · exact zM i i0 (by omega)
  unfold w_X12_rules_b145
  refine loop2 _ (fun (x : Int) N => 0 ≤ x ∧ x ≤ 1600 * A 261 16 ∧ (∀ k, k ≠ 95 → N k = M k) ∧ ∀ i, 0 ≤ i → i < x → N 95 i = 0) (fun x _ => (1600 * A 261 16 - x).toNat) ?_ _ _ ⟨by omega, by omega, fun _ _ => rfl, fun i _ _ => by omega⟩
  rintro u N g ⟨u0, u1, oN, zN⟩ ih2
  unfold wb_X12_rules_b145
  intro v1 ev1 _
  have ev : v1 = A 261 16 := by rw [ev1, oN 0 (by decide), oM 0 (by decide), o5 0 (by decide), i4 133 (by decide) (by decide), h133]
  rw [ev]
  refine ⟨by unfold ri_; omega, fun w' M6 e6 => ?_, fun w' => ⟨u0, by omega, fun M5' e5' => ⟨by unfold ri_; omega, ih2 _ _ ⟨by omega, by omega, fun k a => by rw [e5', ux_g _ _ _ a]; exact oN k a, fun i i0 i1 => ?_⟩ (by omega)⟩⟩⟩
  rotate_left
  · rw [e5', ux_v]
    split
    · rfl
    · exact zN i i0 (by omega)
  have o6 : ∀ k, k ≠ 0 → k ≠ 61 → k ≠ 94 → k ≠ 95 → M6 k = R k := fun k a b d e => by rw [e6, ux_g _ _ _ a, oN k e, oM k d, o5 k b, o4 k a]
  have i6 : ∀ i, i ≠ 0 → i ≠ 97 → i ≠ 138 → M6 0 i = R 0 i := fun i a b d => by rw [e6, ux_i _ _ _ d, oN 0 (by decide), oM 0 (by decide), o5 0 (by decide), i4 i a b]
  have z94 : ∀ i, 0 ≤ i → i < 240 → M6 94 i = 0 := fun i a b => by rw [e6, ux_g _ _ _ (by decide), oN 94 (by decide)]; exact zM i a (by omega)
  have z95 : ∀ i, 0 ≤ i → i < 1600 * A 261 16 → M6 95 i = 0 := fun i a b => by rw [e6, ux_g _ _ _ (by decide)]; exact zN i a (by omega)
  have l6 : M6 61 = M5 61 := by rw [e6, ux_g _ _ _ (by decide), oN 61 (by decide), oM 61 (by decide)]
  have z97 : M6 0 97 = p := by rw [e6, ux_i _ _ _ (by decide), oN 0 (by decide), oM 0 (by decide), o5 0 (by decide), e4, ux_s]
  have z00 : M6 0 0 = 0 := by rw [e6, ux_i _ _ _ (by decide), oN 0 (by decide), oM 0 (by decide), o5 0 (by decide), e4, ux_i _ _ _ (by decide), e1, ux_s]
  have j6 : JS D c A p M6 := ⟨Rty_R hY (fun k _ _ _ => o6 k (by omega) (by omega) (by omega) (by omega)) (i6 20 (by decide) (by decide) (by decide)), Rpb_e hb (fun k _ _ => o6 k (by omega) (by omega) (by omega) (by omega)), z97, by rw [o6 83 (by decide) (by decide) (by decide) (by decide)]; exact h83, by rw [i6 134 (by decide) (by decide) (by decide)]; exact h134, fun j a b => by
    have := hR j a b
    unfold RLq AtK at this ⊢
    rw [o6 84 (by decide) (by decide) (by decide) (by decide), o6 85 (by decide) (by decide) (by decide) (by decide), o6 86 (by decide) (by decide) (by decide) (by decide), o6 87 (by decide) (by decide) (by decide) (by decide), o6 88 (by decide) (by decide) (by decide) (by decide), o6 89 (by decide) (by decide) (by decide) (by decide), o6 90 (by decide) (by decide) (by decide) (by decide), o6 91 (by decide) (by decide) (by decide) (by decide), o6 82 (by decide) (by decide) (by decide) (by decide)]
    exact this⟩
  refine p_rnd hw p0 p5 oA n40 j6 (by rw [e6, ux_s]) (fun k a b => ?_) (fun R' fj oj lj => hq M6 R' ⟨fun k a b d => ?_, fun i hi => ?_⟩ (by rw [fj.2 0 (by decide)]; exact z00) z94 z95 oj lj)
  · unfold FRk K0_
    constructor
    · rintro ⟨x1', x2', x3', x4', x5'⟩
      refine ⟨x1', x2', x3', x4', ?_⟩
      rcases x5' with ⟨y1, y2, y3 | y3⟩ | y | y
      · have := z94 (40 * k + a) (by omega) (by omega)
        have := y3.2.2
        omega
      · have := z95 (1600 * k + 40 * a + b) (by omega) (by omega)
        have := y3.2
        omega
      · have q := y.2
        rw [l6] at q
        exact Or.inl ⟨y.1, (l5 a b x1' x2' x3' x4').mp q⟩
      · exact Or.inr y
    · rintro ⟨x1', x2', x3', x4', x5'⟩
      refine ⟨x1', x2', x3', x4', ?_⟩
      rcases x5' with y | y
      · refine Or.inr (Or.inl ⟨y.1, ?_⟩)
        rw [l6]
        exact (l5 a b x1' x2' x3' x4').mpr y.2
      · exact Or.inr (Or.inr y)
  · rw [fj.1 k a d]; exact o6 k a b (by omega) (by omega)
  · simp only [List.mem_cons, List.not_mem_nil, or_false, not_or] at hi
    rw [fj.2 i hi.2.2]; exact i6 i hi.1 hi.2.1 hi.2.2
