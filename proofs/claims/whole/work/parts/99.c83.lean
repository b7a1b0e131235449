/-! rules worked out by the reference: all parts of a body hold -/
theorem FRk_94 {A R M : MM} {n k a : Int} (k0 : 0 ≤ k) (k1 : k < A 261 16) (ar : A 273 k = 1) (a0 : 0 ≤ a) (a1 : a < n) (n40 : n ≤ 40) (e94 : M 94 = ux_ R 94 (40 * k + a) 1 94) (e95 : M 95 = R 95) (e61 : M 61 = R 61) (k' a' b' : Int) : FRk A n M k' a' b' ↔ addK (FRk A n R) k a a k' a' b' := by
  unfold addK FRk
  rw [e94, e95, e61, ux_v]
  constructor
  · rintro ⟨x1, x2, x3, x4, x5⟩
    rcases x5 with ⟨y1, y2, y3 | y3⟩ | y
    · by_cases w : 40 * k' + a' = 40 * k + a
      · exact Or.inr ⟨by omega, by omega, by omega⟩
      · rw [if_neg w] at y3
        exact Or.inl ⟨x1, x2, x3, x4, Or.inl ⟨y1, y2, Or.inl y3⟩⟩
    · exact Or.inl ⟨x1, x2, x3, x4, Or.inl ⟨y1, y2, Or.inr y3⟩⟩
    · exact Or.inl ⟨x1, x2, x3, x4, Or.inr y⟩
  · rintro (⟨x1, x2, x3, x4, x5⟩ | ⟨e1, e2, e3⟩)
    · refine ⟨x1, x2, x3, x4, ?_⟩
      rcases x5 with ⟨y1, y2, y3 | y3⟩ | y
      · refine Or.inl ⟨y1, y2, Or.inl ⟨y3.1, y3.2.1, ?_⟩⟩
        split
        · rfl
        · exact y3.2.2
      · exact Or.inl ⟨y1, y2, Or.inr y3⟩
      · exact Or.inr y
    · rw [e1, e2, e3]
      exact ⟨a0, a1, a0, a1, Or.inl ⟨k0, k1, Or.inl ⟨ar, rfl, by rw [if_pos rfl]⟩⟩⟩
theorem FRk_95 {A R M : MM} {n k a b : Int} (k0 : 0 ≤ k) (k1 : k < A 261 16) (ar : A 273 k = 2) (a0 : 0 ≤ a) (a1 : a < n) (b0 : 0 ≤ b) (b1 : b < n) (n40 : n ≤ 40) (e94 : M 94 = R 94) (e95 : M 95 = ux_ R 95 (1600 * k + 40 * a + b) 1 95) (e61 : M 61 = R 61) (k' a' b' : Int) : FRk A n M k' a' b' ↔ addK (FRk A n R) k a b k' a' b' := by
  unfold addK FRk
  rw [e94, e95, e61, ux_v]
  constructor
  · rintro ⟨x1, x2, x3, x4, x5⟩
    rcases x5 with ⟨y1, y2, y3 | y3⟩ | y
    · exact Or.inl ⟨x1, x2, x3, x4, Or.inl ⟨y1, y2, Or.inl y3⟩⟩
    · by_cases w : 1600 * k' + 40 * a' + b' = 1600 * k + 40 * a + b
      · exact Or.inr ⟨by omega, by omega, by omega⟩
      · rw [if_neg w] at y3
        exact Or.inl ⟨x1, x2, x3, x4, Or.inl ⟨y1, y2, Or.inr y3⟩⟩
    · exact Or.inl ⟨x1, x2, x3, x4, Or.inr y⟩
  · rintro (⟨x1, x2, x3, x4, x5⟩ | ⟨e1, e2, e3⟩)
    · refine ⟨x1, x2, x3, x4, ?_⟩
      rcases x5 with ⟨y1, y2, y3 | y3⟩ | y
      · exact Or.inl ⟨y1, y2, Or.inl y3⟩
      · refine Or.inl ⟨y1, y2, Or.inr ⟨y3.1, ?_⟩⟩
        split
        · rfl
        · exact y3.2
      · exact Or.inr y
    · rw [e1, e2, e3]
      exact ⟨a0, a1, b0, b1, Or.inl ⟨k0, k1, Or.inr ⟨ar, by rw [if_pos rfl]⟩⟩⟩
theorem jn_head {A R : MM} {n r s : Int} {cl : Int → Int → Prop} {G : Nat → (Int → MM → Prop) → List Int → MM → Prop} (hr : RLq A R r) (r0 : 0 ≤ r) (r1 : r < A 261 3) (oA : OKW A) (n40 : n ≤ 40) (h83 : ∀ i, 0 ≤ i → i < A 261 16 → R 83 i = A 273 i) (hB : B01 n R) (hP : PJk A n cl R r (A 266 r)) (no : hbJ A R r → ¬ hfJ A n R R r) {Q : Int → MM → Prop} (hq : ∀ x R', JPo A n cl R r x R' → Q x R') : w_X12_join_b99 G Q r (A 266 r) s R := by
  obtain ⟨g84, gk0, gk1, g85, g86, g87, gb1, gb4, ga0, ga1, gc0, gc1, g3, gh1, gh2, hat⟩ := hr
  have k6 := oA.2.1
  have r12 := oA.2.2.2.1
  have bd : ∀ v, hldB A r (A 266 r) v → R 96 v = 1 := fun v ⟨m, m0, m1, m2⟩ => by
    have q := hP m m0 m1
    rcases m2.2 with w | w
    · rw [← w]; exact q.1
    · rw [← w]; exact q.2.1
  have hb : hbJ A R r := ⟨bd _ gh1, bd _ gh2⟩
  have rg : ∀ v, 0 ≤ v → v < 9 → R 96 v = 1 → 0 ≤ R 93 v ∧ R 93 v < n := fun v a b e => by
    rcases hB v a b with w | w
    · omega
    · exact w.2
  have ra := rg _ ga0 (by omega) hb.1
  have rb := rg _ gc0 (by omega) hb.2
  have fin : ∀ M1, (∀ k, k ≠ 0 → k ≠ 94 → k ≠ 95 → M1 k = R k) → (∀ i, i ≠ 138 → M1 0 i = R 0 i) → M1 0 138 = 1 → OutJ A n R M1 → (∀ k' a' b', FRk A n M1 k' a' b' ↔ addK (FRk A n R) (A 262 r) (R 93 (A 263 r)) (R 93 (A 264 r)) k' a' b') → Q 1 M1 := fun M1 f1 f2 f3 f5 f4 => by
    refine hq 1 M1 ⟨Or.inr rfl, ⟨⟨fun k a b => f1 k a (by omega) (by omega), f2⟩, fun k a b y => (f4 k a b).mpr (Or.inl y), fun L lL cL k a b y => ?_, Or.inr f3, fun y => by omega, fun _ => Or.inr ⟨A 262 r, R 93 (A 263 r), R 93 (A 264 r), gk0, by omega, ra.1, by omega, rb.1, by omega, (f4 _ _ _).mpr (Or.inr ⟨rfl, rfl, rfl⟩), no hb⟩, f5⟩, fun v a b => ?_, fun _ _ => (f4 _ _ _).mpr (Or.inr ⟨rfl, rfl, rfl⟩), fun y => by omega⟩
    · rcases (f4 k a b).mp y with w | ⟨w1, w2, w3⟩
      · exact lL _ _ _ w
      · rw [w1, w2, w3]
        have := cL r (fun v => if R 96 v = 1 then R 93 v else 0) r0 r1 (fun v v0 v1 => ?_) (fun m m0 m1 => ?_)
        · unfold HdK at this
          simp only [if_pos hb.1, if_pos hb.2] at this
          exact this
        · show 0 ≤ (if R 96 v = 1 then R 93 v else 0) ∧ (if R 96 v = 1 then R 93 v else 0) < n
          split
          · exact rg v v0 (by omega) (by assumption)
          · omega
        · obtain ⟨q1, q2, q3⟩ := hP m m0 m1
          show akH A cl L (4 * r + m) (if R 96 (A 268 (4 * r + m)) = 1 then R 93 (A 268 (4 * r + m)) else 0) (if R 96 (A 269 (4 * r + m)) = 1 then R 93 (A 269 (4 * r + m)) else 0)
          rw [if_pos q1, if_pos q2]
          exact akH_m lL q3
    · rw [f1 96 (by decide) (by decide) (by decide), f1 93 (by decide) (by decide) (by decide)]
      exact BW_r hB v a b
  unfold w_X12_join_b99 w_X12_join_b197
  refine ⟨r0, by omega, fun v1 e1 _ => ⟨fun y => absurd (by rw [e1, g87]) y, fun _ => ⟨r0, by omega, fun v11 e11 _ => ?_⟩⟩⟩
  rw [e11, g84]
  refine ⟨gk0, by omega, fun v12 e12 _ => ?_⟩
  rw [h83 _ gk0 gk1] at e12
  rw [e12]
  refine ⟨fun y => ⟨r0, by omega, fun v14 e14 _ => ?_⟩, fun y => ⟨r0, by omega, fun v20 e20 _ => ?_⟩⟩
  · have ar : A 273 (A 262 r) = 1 ∧ A 264 r = A 263 r := by rcases g86 with w | w; exact ⟨w.2.2, w.2.1⟩; exact absurd w.2 y
    rw [e14]
    refine ⟨by unfold ri_; omega, r0, by omega, fun v16 e16 _ => ?_⟩
    rw [e16, g85]
    refine ⟨ga0, by omega, fun v17 e17 _ => ?_⟩
    rw [e17]
    refine ⟨by unfold ri_; omega, by omega, by omega, fun M19 e19 M1 em1 => ?_⟩
    refine fin M1 (fun k a b c => by rw [em1, ux_g _ _ _ a, e19, ux_g _ _ _ b]) (fun i hi => by rw [em1, ux_i _ _ _ hi, e19, ux_g _ _ _ (by decide)]) (by rw [em1, ux_s]) ⟨fun i => ?_, fun i => Or.inl (by rw [em1, ux_g _ _ _ (by decide), e19, ux_g _ _ _ (by decide)])⟩ (fun k' a' b' => ?_)
    · rw [em1, ux_g _ _ _ (by decide), e19, ux_v]
      split
      · exact Or.inr ⟨A 262 r, _, gk0, gk1, ar.1, ra.1, ra.2, by assumption⟩
      · exact Or.inl rfl
    rw [ar.2]
    exact FRk_94 gk0 gk1 ar.1 ra.1 ra.2 n40 (by rw [em1, ux_g _ _ _ (by decide), e19]) (by rw [em1, ux_g _ _ _ (by decide), e19, ux_g _ _ _ (by decide)]) (by rw [em1, ux_g _ _ _ (by decide), e19, ux_g _ _ _ (by decide)]) k' a' b'
  · have h86 : R 86 r = A 264 r := by rcases g86 with w | w; omega; exact w.1
    rw [e20]
    refine ⟨by unfold ri_; omega, r0, by omega, fun v22 e22 _ => ?_⟩
    rw [e22, g85]
    refine ⟨ga0, by omega, fun v23 e23 _ => ?_⟩
    rw [e23]
    refine ⟨by unfold ri_; omega, by unfold ri_; omega, r0, by omega, fun v26 e26 _ => ?_⟩
    rw [e26, h86]
    refine ⟨gc0, by omega, fun v27 e27 _ => ?_⟩
    rw [e27]
    refine ⟨by unfold ri_; omega, by omega, by omega, fun M29 e29 M1 em1 => ?_⟩
    refine fin M1 (fun k a b c => by rw [em1, ux_g _ _ _ a, e29, ux_g _ _ _ c]) (fun i hi => by rw [em1, ux_i _ _ _ hi, e29, ux_g _ _ _ (by decide)]) (by rw [em1, ux_s]) ⟨fun i => Or.inl (by rw [em1, ux_g _ _ _ (by decide), e29, ux_g _ _ _ (by decide)]), fun i => ?_⟩ (fun k' a' b' => ?_)
    · rw [em1, ux_g _ _ _ (by decide), e29, ux_v]
      split
      · exact Or.inr ⟨A 262 r, _, _, gk0, gk1, y, ra.1, ra.2, rb.1, rb.2, by assumption⟩
      · exact Or.inl rfl
    exact FRk_95 gk0 gk1 y ra.1 ra.2 rb.1 rb.2 n40 (by rw [em1, ux_g _ _ _ (by decide), e29, ux_g _ _ _ (by decide)]) (by rw [em1, ux_g _ _ _ (by decide), e29]) (by rw [em1, ux_g _ _ _ (by decide), e29, ux_g _ _ _ (by decide)]) k' a' b'
