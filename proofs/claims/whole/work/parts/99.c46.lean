/-! the look at the promises behind a write, on both sides -/
def RAg (R R1 : MM) : Prop := (∀ k, 4 ≤ k → k ≤ 18 → k ≠ 6 → R1 k = R k) ∧ (∀ k, 66 ≤ k → k ≤ 70 → R1 k = R k) ∧ R1 78 = R 78 ∧ R1 79 = R 79 ∧ ∀ i, i ∈ ([20, 113, 114] : List Int) → R1 0 i = R 0 i
def FLq (R R' : MM) : Prop := (∀ k, k ∉ [0, 36, 37, 60, 62, 72, 73, 74, 79] → k < 38 ∨ 59 < k → R' k = R k) ∧ (∀ k i, 38 ≤ k → k ≤ 59 → ¬ rw_ k 4 i → R' k i = R k i) ∧ ∀ i, i ∉ ([47, 73, 97, 98, 99, 101, 102, 103] : List Int) → R' 0 i = R 0 i
theorem FLq_r (R : MM) : FLq R R := ⟨fun _ _ _ => rfl, fun _ _ _ _ _ => rfl, fun _ _ => rfl⟩
theorem FLq_T {R R' : MM} (h : FT4 R R') : FLq R R' := ⟨fun k hk hr => h.1 k (by simp only [List.mem_cons, List.not_mem_nil, or_false] at hk ⊢; omega) hr, h.2.1, fun i hi => h.2.2 i (by simp only [List.mem_cons, List.not_mem_nil, or_false] at hi ⊢; omega)⟩
theorem FLq_P {R R1 R2 : MM} (h : FLq R R1) (e : EP R1 R2) : FLq R R2 := ⟨fun k hk hr => by
    rw [e.1 k (by simp only [List.mem_cons, List.not_mem_nil, or_false] at hk ⊢; omega)]; exact h.1 k hk hr, fun k i a b c => by
    rw [e.1 k (by simp only [List.mem_cons, List.not_mem_nil, or_false]; omega)]; exact h.2.1 k i a b c, fun i hi => by
    rw [e.2 i (by simp only [List.mem_cons, List.not_mem_nil, or_false] at hi ⊢; omega)]; exact h.2.2 i hi⟩
theorem FLq_79 {R R1 : MM} (h : FLq R R1) (j v : Int) : FLq R (ux_ R1 79 j v) := ⟨fun k hk hr => by
    rw [ux_g _ _ _ (fun y => hk (by rw [y]; decide))]; exact h.1 k hk hr, fun k i a b c => by
    rw [ux_g _ _ _ (by omega)]; exact h.2.1 k i a b c, fun i hi => by
    rw [ux_g _ _ _ (by decide)]; exact h.2.2 i hi⟩
theorem RdyP_R {M R R1 R' : MM} {pc : Nat} {S : Int → Prop} (h : RdyP M R1 R' pc S) (a : RAg R R1) : RdyP M R R' pc S := by
  obtain ⟨r1, r2, r3, r4, r5, r6, r7⟩ := h
  obtain ⟨a1, a2, a3, a4, a5⟩ := a
  exact ⟨fun k x y z => by rw [r1 k x y z, a1 k x y z], by rw [r2, a5 20 (by decide)], r3, r4, fun y => r5 (by rw [a5 114 (by decide)]; exact y), fun j i x y z => by rw [r6 j i x y z, a2 j x y], by rw [r7, a3]⟩
theorem RdyP_79 {M R R' : MM} {pc : Nat} {S : Int → Prop} (h : RdyP M R R' pc S) (j v : Int) : RdyP M R (ux_ R' 79 j v) pc S := by
  obtain ⟨r1, r2, r3, r4, r5, r6, r7⟩ := h
  refine ⟨fun k x y z => by rw [ux_g _ _ _ (by omega)]; exact r1 k x y z, by rw [ux_g _ _ _ (by decide)]; exact r2, Rpb_M r3 (fun k hk => ux_g _ _ _ (by intro y; rw [y] at hk; revert hk; decide)), ?_, ?_, fun q i x y z => by rw [ux_g _ _ _ (by omega)]; exact r6 q i x y z, by rw [ux_g _ _ _ (by decide)]; exact r7⟩
  · rw [ux_g _ _ _ (by decide)]; exact r4
  · rw [ux_g _ _ _ (by decide), ux_g _ _ _ (by decide), ux_g _ _ _ (by decide)]; exact r5
def ZK (Mt R : MM) (pc : Nat) (j z : Int) : Prop := ∀ R', RdyP Mt R R' pc (fun _ => True) → ∀ Q : Int → MM → Prop, (∀ R'', EP R' R'' → Q z R'') → w_X12_isTrueNow Q j R'
def TKN (C Mt : MM) (pc : Nat) : Prop := ∀ (R1 : MM) (Qr : Int → MM → Prop), Rty C R1 → Rhp C R1 → (R1 0 114 = 0 ∨ R1 0 114 = 1) → (∀ R', RdyP Mt R1 R' pc (fun _ => True) → FT4 R1 R' → Qr 0 R') → w_X12_takeNow Qr R1
/-- the reference looks -/
theorem r_look {C Mt R R1 : MM} {pc : Nat} {w K : Int} {V : Int → Int} {Qr : Int → MM → Prop} (hY : Rty C R1) (hH : Rhp C R1) (hA : RAg R R1) (k3 : K ≤ 3) (k0 : 0 ≤ K) (h113 : R1 0 113 = K) (h114 : R1 0 114 = 0 ∨ R1 0 114 = 1) (hV : ∀ j, 0 ≤ j → j < K → (R1 79 j ≠ -2 ∧ V j = R1 79 j) ∨ (R1 79 j = -2 ∧ ∃ z, (z = 0 ∨ z = 1) ∧ V j = (if z = 1 then -2 else w) ∧ ZK Mt R pc j z)) (hT : TKN C Mt pc) (hex : ∃ j, 0 ≤ j ∧ j < K ∧ R1 79 j = -2) (hq : ∀ R', FLq R1 R' → (∀ j, 0 ≤ j → j < K → R' 79 j = V j) → Qr 0 R') : w_X12_lookAtPromises Qr w R1 := by
  have b50 : ∀ R2, RdyP Mt R R2 pc (fun _ => True) → FLq R1 R2 → R2 79 = R1 79 → w_X12_lookAtPromises_b50 Qr w 0 R2 := fun R2 hr hf h79 => by
    unfold w_X12_lookAtPromises_b50
    refine loop3 _ (fun (x1 x3 : Int) M => x1 = w ∧ 0 ≤ x3 ∧ x3 ≤ K ∧ RdyP Mt R M pc (fun _ => True) ∧ FLq R1 M ∧ (∀ j, 0 ≤ j → j < x3 → M 79 j = V j) ∧ ∀ j, x3 ≤ j → M 79 j = R1 79 j) (fun _ (x3 : Int) _ => (K - x3).toNat) ?_ _ _ _ ⟨rfl, by omega, k0, hr, hf, fun j a b => by omega, fun j _ => by rw [h79]⟩
    rintro x1 x3 M f ⟨rfl, a0, a1, hr, hf, p1, p2⟩ ih
    unfold wb_X12_lookAtPromises_b50
    intro v1 e1 _
    rw [hf.2.2 113 (by decide), h113] at e1
    refine ⟨fun z => hq M hf (fun j x y => p1 j x (by omega)), fun z => ⟨a0, by omega, fun v3 e3 _ => ?_⟩⟩
    rw [p2 x3 (Int.le_refl _)] at e3
    have hv := hV x3 a0 (by omega)
    refine ⟨fun y => ?_, fun y => ?_⟩
    · unfold w_X12_lookAtPromises_b84
      rcases hv with ⟨u1, u2⟩ | ⟨u1, -⟩
      · refine ⟨by unfold ri_; omega, ih _ _ _ ⟨rfl, by omega, by omega, hr, hf, fun j s t => ?_, fun j s => p2 j (by omega)⟩ (by omega)⟩
        by_cases q : j = x3
        · rw [q, p2 x3 (Int.le_refl _), u2]
        · exact p1 j s (by omega)
      · omega
    · rcases hv with ⟨u1, -⟩ | ⟨u1, zz, hz, u2, hZ⟩
      · omega
      · refine hZ M hr _ (fun R3 e _ => ?_)
        have hr3 := RdyP_P hr e
        have hf3 := FLq_P hf e
        have e79 : R3 79 = M 79 := e.1 79 (by decide)
        refine ⟨fun q => ?_, fun q => ⟨a0, by omega, fun M8 e8 => ?_⟩⟩
        · unfold w_X12_lookAtPromises_b84
          refine ⟨by unfold ri_; omega, ih _ _ _ ⟨rfl, by omega, by omega, hr3, hf3, fun j s t => ?_, fun j s => by rw [e79]; exact p2 j (by omega)⟩ (by omega)⟩
          rw [e79]
          by_cases g : j = x3
          · rw [g, p2 x3 (Int.le_refl _), u1, u2, if_pos (by omega)]
          · exact p1 j s (by omega)
        · unfold w_X12_lookAtPromises_b84
          rw [e8]
          refine ⟨by unfold ri_; omega, ih _ _ _ ⟨rfl, by omega, by omega, RdyP_79 hr3 _ _, FLq_79 hf3 _ _, fun j s t => ?_, fun j s => ?_⟩ (by omega)⟩
          · by_cases g : j = x3
            · rw [g, ux_s, u2, if_neg (by omega)]
            · rw [ux_i _ _ _ g, e79]; exact p1 j s (by omega)
          · rw [ux_i _ _ _ (by omega), e79]; exact p2 j (by omega)
  unfold w_X12_lookAtPromises w_X12_lookAtPromises_b4
  refine loop4 _ (fun (x1 x2 x3 : Int) M => x1 = w ∧ R1 = M ∧ 0 ≤ x3 ∧ x3 ≤ K ∧ ((x2 = 0 ∧ ∀ j, 0 ≤ j → j < x3 → R1 79 j ≠ -2) ∨ x2 = 1)) (fun _ _ (x3 : Int) _ => (K - x3).toNat) ?_ _ _ _ _ ⟨rfl, rfl, by omega, k0, Or.inl ⟨rfl, fun j a b => by omega⟩⟩
  rintro x1 x2 x3 M f ⟨rfl, rfl, a0, a1, hx⟩ ih
  unfold wb_X12_lookAtPromises_b4
  intro v1 e1 _
  rw [h113] at e1
  refine ⟨fun z => ⟨fun y => ?_, fun y => ?_⟩, fun z => ⟨fun y => ?_, fun y => ⟨a0, by omega, fun v7 e7 _ => ⟨fun g => ?_, fun g => ?_⟩⟩⟩⟩
  · exact hT R1 _ hY hH h114 (fun R2 h2 f2 => b50 R2 (RdyP_R h2 hA) (FLq_T f2) (f2.1 79 (by decide) (by omega)))
  · obtain ⟨j, j0, j1, j2⟩ := hex
    rcases hx with ⟨-, hx⟩ | hx
    · exact absurd j2 (hx j j0 (by omega))
    · omega
  · unfold w_X12_lookAtPromises_b27 w_X12_lookAtPromises_b32
    exact ⟨by unfold ri_; omega, ih _ _ _ _ ⟨rfl, rfl, by omega, by omega, Or.inr rfl⟩ (by omega)⟩
  · unfold w_X12_lookAtPromises_b32
    refine ⟨by unfold ri_; omega, ih _ _ _ _ ⟨rfl, rfl, by omega, by omega, Or.inl ⟨rfl, fun j s t => ?_⟩⟩ (by omega)⟩
    rcases hx with ⟨-, hx⟩ | hx
    · by_cases q : j = x3
      · rw [q, ← e7]; exact g
      · exact hx j s (by omega)
    · omega
  · unfold w_X12_lookAtPromises_b27 w_X12_lookAtPromises_b32
    exact ⟨by unfold ri_; omega, ih _ _ _ _ ⟨rfl, rfl, by omega, by omega, Or.inr rfl⟩ (by omega)⟩
theorem r_look0 {R1 : MM} {w K : Int} {Qr : Int → MM → Prop} (k3 : K ≤ 3) (k0 : 0 ≤ K) (h113 : R1 0 113 = K) (hn : ∀ j, 0 ≤ j → j < K → R1 79 j ≠ -2) (hq : Qr 0 R1) : w_X12_lookAtPromises Qr w R1 := by
  unfold w_X12_lookAtPromises w_X12_lookAtPromises_b4
  refine loop4 _ (fun (x1 x2 x3 : Int) M => x1 = w ∧ R1 = M ∧ 0 ≤ x3 ∧ x3 ≤ K ∧ x2 = 0) (fun _ _ (x3 : Int) _ => (K - x3).toNat) ?_ _ _ _ _ ⟨rfl, rfl, by omega, k0, rfl⟩
  rintro x1 x2 x3 M f ⟨rfl, rfl, a0, a1, hx⟩ ih
  unfold wb_X12_lookAtPromises_b4
  intro v1 e1 _
  rw [h113] at e1
  refine ⟨fun z => ⟨fun y => absurd hx y, fun y => hq⟩, fun z => ⟨fun y => absurd hx y, fun y => ⟨a0, by omega, fun v7 e7 _ => ⟨fun g => ?_, fun g => absurd (by rw [← e7]; exact g) (hn x3 a0 (by omega))⟩⟩⟩⟩
  unfold w_X12_lookAtPromises_b32
  exact ⟨by unfold ri_; omega, ih _ _ _ _ ⟨rfl, rfl, by omega, by omega, rfl⟩ (by omega)⟩
