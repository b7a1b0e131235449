/-! rules are read: from the first word to the last, on both sides -/
def FRlc (C C' : MM) : Prop := (∀ q, q ∉ [1, 4, 5, 6] → q < 261 ∨ 273 < q → C' q = C q) ∧ (∀ i, i ∉ ([4, 8, 9, 10, 11] : List Int) → C' 1 i = C 1 i) ∧ C' 261 1 = C 261 1 ∧ C' 261 2 = C 261 2
def FRlr (R R' : MM) : Prop := (∀ k, k ≠ 0 → k < 80 ∨ 92 < k → R' k = R k) ∧ ∀ i, i ∉ ([0, 78, 79, 80, 81, 82, 83, 84, 85, 91, 92, 93, 94, 133, 134, 135, 136, 137] : List Int) → R' 0 i = R 0 i
def RCd (C A C' : MM) : Prop := FRlc C C' ∧ (∀ q, 262 ≤ q → q ≤ 273 → C' q = A q) ∧ C' 261 3 = A 261 3 ∧ C' 261 16 = A 261 16 ∧ C' 261 19 = 0 ∧ C' 261 20 = -1
def RRd (R A R' : MM) : Prop := FRlr R R' ∧ R' 0 133 = A 261 16 ∧ R' 0 134 = A 261 3 ∧ (∀ i, 0 ≤ i → i < A 261 16 → R' 83 i = A 273 i) ∧ (∀ j, 0 ≤ j → j < A 261 3 → RLq A R' j) ∧ R' 0 81 = 0 ∧ R' 0 82 = -1
def OKW (A : MM) : Prop := 0 ≤ A 261 16 ∧ A 261 16 ≤ 6 ∧ 0 ≤ A 261 3 ∧ A 261 3 ≤ 12 ∧ (∀ i, 0 ≤ i → i < A 261 16 → A 273 i = 0 ∨ A 273 i = 1 ∨ A 273 i = 2) ∧ ∀ r, 0 ≤ r → r < A 261 3 → RLA A r
theorem r_beg7 {C0 R0 R A : MM} {E : Nat → Int} {L : Nat} (eR : R0 = ux_ (ux_ (ux_ (ux_ (ux_ (ux_ (ux_ R 0 91 0) 0 92 0) 0 93 0) 0 94 0) 0 83 0) 0 84 (-1)) 0 78 0) (hT : TX C0 R0 E L) (a1 : A 261 16 = 0) (a2 : A 261 3 = 0) (r1 : R 0 133 = 0) (r2 : R 0 134 = 0) {Q : Int → MM → Prop} (hq : ∀ R', KRq0 C0 R0 E 0 A R' → Q 0 R') : w_X12_beginText Q 0 R := by
  unfold w_X12_beginText
  intro M1 e1 M2 e2 M3 e3 M4 e4 M5 e5 M6 e6 M7 e7
  rw [e6, e5, e4, e3, e2, e1, ← eR] at e7
  rw [e7]
  have h78 : R0 0 78 = E 0 := by rw [eR, ux_s]; exact hT.1.1.symm
  have h83 : R0 0 83 = 0 := by rw [eR, ux_i _ _ _ (by decide), ux_i _ _ _ (by decide), ux_s]
  have h133 : R0 0 133 = 0 := by rw [eR, ux_i _ _ _ (by decide), ux_i _ _ _ (by decide), ux_i _ _ _ (by decide), ux_i _ _ _ (by decide), ux_i _ _ _ (by decide), ux_i _ _ _ (by decide), ux_i _ _ _ (by decide)]; exact r1
  have h134 : R0 0 134 = 0 := by rw [eR, ux_i _ _ _ (by decide), ux_i _ _ _ (by decide), ux_i _ _ _ (by decide), ux_i _ _ _ (by decide), ux_i _ _ _ (by decide), ux_i _ _ _ (by decide), ux_i _ _ _ (by decide)]; exact r2
  obtain ⟨t1, t2, t3, t4, t5, t6⟩ := hT
  obtain ⟨s1, s2, s3⟩ := t1.2.2.2.2 0 (Nat.zero_le _)
  refine p_adv (C := C0) t2 t3 t4 t5 h78 s1 s3 fun N' f1 f2 f3 f4 => hq N' ⟨⟨fun k a _ => f1.1 k a, fun i hi => f1.2 i (fun y => hi (by simp only [List.mem_cons, List.not_mem_nil, or_false] at y ⊢; omega))⟩, ⟨f2, f3, f4⟩, by rw [f1.2 83 (by decide)]; exact h83, by rw [a1, f1.2 133 (by decide), h133], ⟨by rw [a2, f1.2 134 (by decide), h134], by omega, by omega⟩, fun i x y => by omega⟩
theorem rb77 {C0 R0 R A : MM} {E : Nat → Int} {k : Nat} {p : Int} (h : KRq0 C0 R0 E k A R) (w : C0 4 k = 0) {Q : Int → MM → Prop} (hq : ∀ R', R' = ux_ (ux_ R 0 81 0) 0 82 (-1) → w_X12_rules_b94 Q p 0 R') : w_X12_rules_b77 Q p R := by
  unfold w_X12_rules_b77 w_X12_endText w_X12_endText_b18 w_X12_endText_b42
  intro v1 e1 _
  have z1 : v1 = 0 := by rw [e1]; exact h.2.2.1
  refine ⟨fun z => absurd z1 z, fun _ v3 e3 _ => ⟨fun _ v5 e5 _ M2 e2 v6 e6 _ => ⟨fun _ M7 e7 v8 e8 _ => ⟨fun _ => hq M7 ?_, fun z => ?_⟩, fun z => ?_⟩, fun z => absurd (by rw [e3]; exact (tk_end h.2.1.2.2).mpr w) z⟩⟩
  · rw [e7, e2, e5, h.2.2.1]
  · rw [e8, e7, ux_i _ _ _ (by decide), e2, ux_s, e5, h.2.2.1] at z; omega
  · rw [e6, e2, ux_i _ _ _ (by decide), h.2.2.1] at z; omega
theorem rb77F {R0 R : MM} {f pl p : Int} (h : KRg R0 f pl R) (f0 : 0 < f) {Q : Int → MM → Prop} (hq : ∀ R', R' = ux_ (ux_ R 0 81 f) 0 82 pl → w_X12_rules_b94 Q p 3 R') : w_X12_rules_b77 Q p R := by
  unfold w_X12_rules_b77 w_X12_endText w_X12_endText_b18 w_X12_endText_b42
  intro v1 e1 _
  have z1 : v1 = f := by rw [e1]; exact h.2.1
  refine ⟨fun _ v5 e5 _ M2 e2 v6 e6 _ => ⟨fun z => ?_, fun _ v7 e7 _ M8 e8 v9 e9 _ => ⟨fun z => ?_, fun _ => hq M8 ?_⟩⟩, fun z => by omega⟩
  · rw [e6, e2, ux_i _ _ _ (by decide), h.2.1] at z; omega
  · rw [e9, e8, ux_i _ _ _ (by decide), e2, ux_s, e5, h.2.1] at z; omega
  · rw [e8, e7, e2, e5, ux_i _ _ _ (by decide), h.2.1, h.2.2]
theorem rlr_spec {C R : MM} (h : RD C R) (hK : Kd R) (n1 : nr (C 261 1) 2877) (n2 : nr (C 261 2) 12184058) (hN : KWn C) {Q1 : Int → MM → Prop}
    (hok : ∀ A, OKW A → (∀ (Q : Int → MM → Prop) (p : Int), (∀ R', RRd R A R' → w_X12_rules_b94 Q p 0 R') → w_X12_rules_b29 Q p 0 R) → ∀ C', RCd C A C' → Q1 1 C')
    (hf : ∀ f pl : Int, 0 < f → (∀ (Q : Int → MM → Prop) (p : Int), (∀ R', FRlr R R' → R' 0 81 = f → R' 0 82 = pl → w_X12_rules_b94 Q p 3 R') → w_X12_rules_b29 Q p 0 R) → ∀ C', FRlc C C' → C' 261 3 = 0 → C' 261 16 = 0 → C' 261 19 = f → C' 261 20 = pl → Q1 0 C') : w_X7_readAll Q1 C := by
  unfold w_X7_readAll
  intro M1 e1 M2 e2 M3 e3 M4 e4
  have o : ∀ k, k ≠ 261 → M4 k = C k := fun k hk => by rw [e4, ux_g _ _ _ hk, e3, ux_g _ _ _ hk, e2, ux_g _ _ _ hk, e1, ux_g _ _ _ hk]
  have oi : ∀ i, i ≠ 3 → i ≠ 16 → i ≠ 19 → i ≠ 20 → M4 261 i = C 261 i := fun i a b c d => by rw [e4, ux_i _ _ _ d, e3, ux_i _ _ _ c, e2, ux_i _ _ _ b, e1, ux_i _ _ _ a]
  have o3 : M4 261 3 = 0 := by rw [e4, ux_i _ _ _ (by decide), e3, ux_i _ _ _ (by decide), e2, ux_i _ _ _ (by decide), e1, ux_s]
  have o16 : M4 261 16 = 0 := by rw [e4, ux_i _ _ _ (by decide), e3, ux_i _ _ _ (by decide), e2, ux_s]
  have o19 : M4 261 19 = 0 := by rw [e4, ux_i _ _ _ (by decide), e3, ux_s]
  have o20 : M4 261 20 = -1 := by rw [e4, ux_s]
  refine p_startWords (okT_D h (by rw [o 1 (by decide)]) (o 2 (by decide))) (fun C0 E L hF hP => ?_)
  obtain ⟨p1, p2, p3, p4, p5, p6⟩ := hP
  have oc : C0 261 = M4 261 := hF.1 261 (by decide) (by decide) (by decide) (by decide)
  have k1 : C0 261 1 = C 261 1 := by rw [oc]; exact oi 1 (by decide) (by decide) (by decide) (by decide)
  have k2 : C0 261 2 = C 261 2 := by rw [oc]; exact oi 2 (by decide) (by decide) (by decide) (by decide)
  have c7 : C0 7 = C 7 := by rw [hF.1 7 (by decide) (by decide) (by decide) (by decide), o 7 (by decide)]
  have hN0 : KWn C0 := fun x a b => by rw [c7, k1, k2]; exact hN x a b
  obtain ⟨A, eA⟩ : ∃ A, A = ux_ C0 261 14 0 := ⟨_, rfl⟩
  have Ai : ∀ i, i ≠ 14 → A 261 i = C0 261 i := fun i hi => by rw [eA, ux_i _ _ _ hi]
  have A14 : A 261 14 = 0 := by rw [eA, ux_s]
  have A3 : A 261 3 = 0 := by rw [Ai 3 (by decide), oc]; exact o3
  have A16 : A 261 16 = 0 := by rw [Ai 16 (by decide), oc]; exact o16
  have hA : OKA C0 A := ⟨by omega, by omega, by omega, by omega, by omega, by omega, fun i j x y => by omega, fun i j x y => by omega, Ai 1 (by decide), Ai 2 (by decide), by rw [k1]; exact n1, by rw [k2]; exact n2, fun i x y => by omega⟩
  have hC : KC0 C0 0 A C0 := ⟨C0 261 14, ⟨fun _ _ _ => rfl, fun _ _ => rfl, fun _ _ => rfl⟩, ⟨p3, p4, p5, p6⟩, fun q a b => by rw [ux_g _ _ _ (by omega), eA, ux_g _ _ _ (by omega)], fun i a b => by rw [ux_v]; split <;> simp_all, by rw [oc]; exact o19, by rw [oc]; exact o20⟩
  obtain ⟨R0, eR⟩ : ∃ R0, R0 = ux_ (ux_ (ux_ (ux_ (ux_ (ux_ (ux_ (ux_ (ux_ (ux_ R 0 0 0) 0 133 0) 0 134 0) 0 91 0) 0 92 0) 0 93 0) 0 94 0) 0 83 0) 0 84 (-1)) 0 78 0 := ⟨_, rfl⟩
  have r0k : ∀ k, k ≠ 0 → R0 k = R k := fun k hk => by rw [eR]; simp only [ux_g _ _ _ hk]
  have r0i : ∀ i, i ∉ ([0, 78, 83, 84, 91, 92, 93, 94, 133, 134] : List Int) → R0 0 i = R 0 i := fun i hi => by
    simp only [List.mem_cons, List.not_mem_nil, or_false, not_or] at hi
    obtain ⟨a1, a2, a3, a4, a5, a6, a7, a8, a9, a10⟩ := hi
    rw [eR, ux_i _ _ _ a2, ux_i _ _ _ a4, ux_i _ _ _ a3, ux_i _ _ _ a8, ux_i _ _ _ a7, ux_i _ _ _ a6, ux_i _ _ _ a5, ux_i _ _ _ a10, ux_i _ _ _ a9, ux_i _ _ _ a1]
  have hTX : TX C0 R0 E L := TX_of h hK p1 (by rw [hF.2 1 (by decide), o 1 (by decide)]) (by rw [hF.1 2 (by decide) (by decide) (by decide) (by decide), o 2 (by decide)]) c7 (r0k 1 (by decide)) (r0k 3 (by decide)) (r0i 3 (by decide))
  have ref : ∀ (Q : Int → MM → Prop) (p : Int), (∀ R', KRq0 C0 R0 E 0 A R' → w_X12_rules_b56 Q p R') → w_X12_rules_b29 Q p 0 R := fun Q p hq => by
    unfold w_X12_rules_b29
    intro N1 d1 v2 d2 _
    refine ⟨fun _ N4 d4 N5 d5 => r_beg7 (C0 := C0) (R0 := R0) (A := A) (E := E) (L := L) (by rw [d5, d4, d1]; exact eR) hTX A16 A3 (by rw [d5, ux_i _ _ _ (by decide), d4, ux_s]) (by rw [d5, ux_s]) (fun R' h' => hq R' h'), fun z => ?_⟩
    rw [d2, d1, ux_s] at z; omega
  have frR : ∀ R1 R' (x y : Int), QFr R0 R1 → R' = ux_ (ux_ R1 0 81 x) 0 82 y → FRlr R R' ∧ R' 0 81 = x ∧ R' 0 82 = y ∧ (∀ k, k ≠ 0 → R' k = R1 k) ∧ ∀ i, i ≠ 81 → i ≠ 82 → R' 0 i = R1 0 i := fun R1 R' x y hq e => by
    have g : ∀ k, k ≠ 0 → R' k = R1 k := fun k hk => by rw [e, ux_g _ _ _ hk, ux_g _ _ _ hk]
    have gi : ∀ i, i ≠ 81 → i ≠ 82 → R' 0 i = R1 0 i := fun i a b => by rw [e, ux_i _ _ _ b, ux_i _ _ _ a]
    refine ⟨⟨fun k a b => by rw [g k a, hq.1 k a b, r0k k a], fun i hi => ?_⟩, by rw [e, ux_i _ _ _ (by decide), ux_s], by rw [e, ux_s], g, gi⟩
    simp only [List.mem_cons, List.not_mem_nil, or_false, not_or] at hi
    rw [gi i (by omega) (by omega), hq.2 i (by simp only [List.mem_cons, List.not_mem_nil, or_false, not_or]; omega), r0i i (by simp only [List.mem_cons, List.not_mem_nil, or_false, not_or]; omega)]
  have frC : ∀ C', KFr C0 C' → (∀ q, q ∉ [1, 4, 5, 6] → q < 261 ∨ 273 < q → C' q = C q) ∧ (∀ i, i ∉ ([4, 8, 9, 10, 11] : List Int) → C' 1 i = C 1 i) := fun C' hk => by
    refine ⟨fun q a b => ?_, fun i hi => ?_⟩
    · simp only [List.mem_cons, List.not_mem_nil, or_false, not_or] at a
      rw [hk.1 q a.1 b, hF.1 q a.1 a.2.1 a.2.2.1 a.2.2.2, o q (by omega)]
    · rw [hk.2.1 i (fun y => hi (by simp only [List.mem_cons, List.not_mem_nil, or_false] at y ⊢; omega)), hF.2 i hi, o 1 (by decide)]
  rcases J_all7 hTX hN0 12 0 0 A (by omega) (by omega) (Nat.zero_le _) hA A3 (fun j a b => by omega) with ⟨k', A', w, oA, oJ, cA, rA⟩ | ⟨f, pl, f0, cA, rA⟩
  · refine ⟨13, cA C0 hC Q1 (fun C' h' => hok A' ⟨oA.1, oA.2.1, oA.2.2.1, oA.2.2.2.1, oA.2.2.2.2.2.2.2.2.2.2.2.2, oJ⟩ (fun Q p hq => ref Q p (fun R' hR' => ⟨14, rA R' hR' (fun j a b => by omega) Q p (fun R2 h2 hl => rb77 h2 w (fun R3 e3' => ?_))⟩)) C' ?_)⟩
    · obtain ⟨f1, f2, f3, f4, f5⟩ := frR R2 R3 0 (-1) h2.1 e3'
      refine hq R3 ⟨f1, by rw [f5 133 (by decide) (by decide)]; exact h2.2.2.2.1.symm, by rw [f5 134 (by decide) (by decide)]; exact h2.2.2.2.2.1.1.symm, fun i a b => by rw [f4 83 (by decide)]; exact (h2.2.2.2.2.2 i a b).2.symm, fun j a b => ?_, f2, f3⟩
      have := hl j a b
      unfold RLq AtK at this ⊢
      rw [f4 84 (by decide), f4 85 (by decide), f4 86 (by decide), f4 87 (by decide), f4 88 (by decide), f4 89 (by decide), f4 90 (by decide), f4 91 (by decide), f4 82 (by decide)]
      exact this
    · obtain ⟨x, hx⟩ := h'
      have q1 := frC C' hx.1
      have a1 := oA.2.2.2.2.2.2.2.2.1
      have a2 := oA.2.2.2.2.2.2.2.2.2.1
      have vi : ∀ i, i ≠ 14 → i ≠ 19 → i ≠ 20 → C' 261 i = A' 261 i := fun i y1 y2 y3 => by rw [hx.2.2.2.1 i y2 y3, ux_i _ _ _ y1]
      exact ⟨⟨q1.1, q1.2, by rw [vi 1 (by decide) (by decide) (by decide), a1, k1], by rw [vi 2 (by decide) (by decide) (by decide), a2, k2]⟩, fun q y1 y2 => by rw [hx.2.2.1 q y1 y2, ux_g _ _ _ (by omega)], vi 3 (by decide) (by decide) (by decide), vi 16 (by decide) (by decide) (by decide), hx.2.2.2.2.1, hx.2.2.2.2.2⟩
  · refine ⟨13, cA C0 hC Q1 (fun C1 C' h1 e' => hf f pl f0 (fun Q p hq => ref Q p (fun R' hR' => ⟨14, rA R' hR' Q p (fun R2 h2 => rb77F h2 f0 (fun R3 e3' => ?_))⟩)) C' ?_ ?_ ?_ ?_ ?_)⟩
    · obtain ⟨f1, f2, f3, f4, f5⟩ := frR R2 R3 f pl h2.1 e3'
      exact hq R3 f1 f2 f3
    · have q1 := frC C1 h1.1
      refine ⟨fun q a b => by rw [e', ux_g _ _ _ (by omega), ux_g _ _ _ (by omega)]; exact q1.1 q a b, fun i hi => by rw [e', ux_g _ _ _ (by decide), ux_g _ _ _ (by decide)]; exact q1.2 i hi, by rw [e', ux_i _ _ _ (by decide), ux_i _ _ _ (by decide), h1.1.2.2 1 (by decide), k1], by rw [e', ux_i _ _ _ (by decide), ux_i _ _ _ (by decide), h1.1.2.2 2 (by decide), k2]⟩
    · rw [e', ux_i _ _ _ (by decide), ux_s]
    · rw [e', ux_s]
    · rw [e', ux_i _ _ _ (by decide), ux_i _ _ _ (by decide)]; exact h1.2.1
    · rw [e', ux_i _ _ _ (by decide), ux_i _ _ _ (by decide)]; exact h1.2.2
