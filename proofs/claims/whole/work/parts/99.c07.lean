/-! questions worked out: acts over two values, both sides -/
theorem p_isLink {Q : Int → MM → Prop} {x : Int} {M : MM} (h1 : x = 2 ∨ x = 3 → Q 1 M) (h0 : ¬ (x = 2 ∨ x = 3) → Q 0 M) : w_X4_isLink Q x M := by
  unfold w_X4_isLink
  exact ⟨fun e => h1 (Or.inl e), fun e => ⟨fun e3 => h0 (fun q => q.elim e e3), fun e3 => h1 (Or.inr e3)⟩⟩
theorem p_compare {Q : Int → MM → Prop} {o a b x : Int} {M : MM} (H : ∀ s0 : Int, (s0 = 0 ∨ s0 = 1) → (s0 = 1 ↔ (a = 2 ∨ a = 3) ∧ (b = 2 ∨ b = 3)) → w_X4_compare_b19 Q o a b x s0 M) : w_X4_compare Q o a b x M := by
  unfold w_X4_compare w_X4_compare_b18
  refine p_isLink (fun h1 _ => ⟨fun z => absurd z (by decide), fun _ => ?_⟩) (fun h1 _ => ⟨fun _ => H 0 (Or.inl rfl) ⟨fun z => absurd z (by decide), fun z => absurd z.1 h1⟩, fun z => absurd rfl z⟩)
  exact p_isLink (fun h2 _ => ⟨fun z => absurd z (by decide), fun _ => H 1 (Or.inr rfl) ⟨fun _ => ⟨h1, h2⟩, fun _ => rfl⟩⟩) (fun h2 _ => ⟨fun _ => H 0 (Or.inl rfl) ⟨fun z => absurd z (by decide), fun z => absurd z.2 h2⟩, fun z => absurd rfl z⟩)
theorem r_spent {Q : Int → MM → Prop} {R : MM} {d : Nat} {x l : Int} (hd : 1 ≤ d) (h : R 0 103 = 1) (hq : ∀ R', EWr l R R' → R' 0 103 = 1 → R' 0 99 = 4 → Q 0 R') : gw_ d 0 Q [x] R := by
  obtain ⟨d, rfl⟩ : ∃ d', d = d' + 1 := ⟨d - 1, by omega⟩
  show b_X12_work (gw_ d) Q x R
  unfold b_X12_work w_X12_work_b11
  exact fun v1 e1 _ => ⟨fun _ v1 e1 _ => ⟨fun z => by omega, fun _ => r_no (l := l) (fun R' a _ b e _ => hq R' a (by rw [b]; exact h) e)⟩, fun z => by omega⟩
def rAr (G : Nat → (Int → MM → Prop) → List Int → MM → Prop) (Q : Int → MM → Prop) (a b k : Int) (R : MM) : Prop := (k = 111 → w_X12_workTwo_b198 G Q a b k R) ∧ (¬ k = 111 → (¬ k = 112 → w_X12_workTwo_b210 G Q a b k R) ∧ (k = 112 → w_X12_workTwo_b198 G Q a b k R))
theorem ar_spec (n o a b : Int) (o0 : 18 ≤ o) (o1 : o ≤ 26) : ∃ so v, VV n so v ∧ (∀ (Q : Int → MM → Prop) (M : MM) (tp : Int), M 219 6 = tp → 0 ≤ tp → tp < 121 → (∀ M', Psh tp so v M M' → Q 0 M') → w_X4_reckon Q o a b M) ∧ ∀ (G : Nat → (Int → MM → Prop) → List Int → MM → Prop) (Q : Int → MM → Prop) (R : MM) (l : Int), (∀ R', EWr l R R' → R' 0 98 = R 0 98 → R' 0 103 = R 0 103 → R' 0 99 = so → R' 0 102 = v → Q 0 R') → rAr G Q a b (o + 86) R := by
  have tr : ∀ (c : Prop), ∃ z : Int, (z = 0 ∨ z = 1) ∧ (z = 1 ↔ c) := fun c => by
    by_cases h : c
    · exact ⟨1, Or.inr rfl, ⟨fun _ => h, fun _ => rfl⟩⟩
    · exact ⟨0, Or.inl rfl, ⟨fun q => absurd q (by decide), fun q => absurd q h⟩⟩
  have ho : o = 18 ∨ o = 19 ∨ o = 20 ∨ o = 21 ∨ o = 22 ∨ o = 23 ∨ o = 24 ∨ o = 25 ∨ o = 26 := by omega
  rcases ho with rfl | rfl | rfl | rfl | rfl | rfl | rfl | rfl | rfl
  · obtain ⟨z, z01, hz⟩ := tr (a < b)
    refine ⟨1, z, Or.inr (Or.inl ⟨rfl, z01⟩), fun Q M tp h6 t0 t1 hq => ?_, fun G Q R l hq => ?_⟩
    · unfold w_X4_reckon w_X4_reckon_b57
      refine ⟨fun _ => ⟨fun q => ⟨Or.inl rfl, ?_⟩, fun q => ⟨Or.inr rfl, ?_⟩⟩, fun q => absurd q (by decide), fun q => absurd q (by decide), fun q => absurd q (by decide), fun q => absurd q (by decide), fun q => absurd q (by decide), fun q => absurd q (by decide), fun q => absurd rfl q.1⟩
      · have : z = 0 := by omega
        subst this; exact p_pushT h6 t0 t1 z01 hq
      · have : z = 1 := by omega
        subst this; exact p_pushT h6 t0 t1 z01 hq
    · unfold rAr w_X12_workTwo_b210 w_X12_workTwo_b273
      refine ⟨fun q => absurd q (by decide), fun _ => ⟨fun _ => ⟨fun _ => ⟨fun q => ⟨Or.inl rfl, ?_⟩, fun q => ⟨Or.inr rfl, ?_⟩⟩, fun q => absurd q (by decide), fun q => absurd q (by decide), fun q => absurd q (by decide), fun q => absurd q (by decide), fun q => absurd q (by decide), fun q => absurd q (by decide), fun q => absurd q (by decide), fun q => absurd rfl q.1⟩, fun q => absurd q (by decide)⟩⟩
      · have : z = 0 := by omega
        subst this; exact r_tru (l := l) z01 hq
      · have : z = 1 := by omega
        subst this; exact r_tru (l := l) z01 hq
  · obtain ⟨z, z01, hz⟩ := tr (a ≤ b)
    refine ⟨1, z, Or.inr (Or.inl ⟨rfl, z01⟩), fun Q M tp h6 t0 t1 hq => ?_, fun G Q R l hq => ?_⟩
    · unfold w_X4_reckon w_X4_reckon_b76
      refine ⟨fun q => absurd q (by decide), fun _ => ⟨fun q => ⟨Or.inl rfl, ?_⟩, fun q => ⟨Or.inr rfl, ?_⟩⟩, fun q => absurd q (by decide), fun q => absurd q (by decide), fun q => absurd q (by decide), fun q => absurd q (by decide), fun q => absurd q (by decide), fun q => absurd rfl q.2.1⟩
      · have : z = 0 := by omega
        subst this; exact p_pushT h6 t0 t1 z01 hq
      · have : z = 1 := by omega
        subst this; exact p_pushT h6 t0 t1 z01 hq
    · unfold rAr w_X12_workTwo_b210 w_X12_workTwo_b292
      refine ⟨fun q => absurd q (by decide), fun _ => ⟨fun _ => ⟨fun q => absurd q (by decide), fun _ => ⟨fun q => ⟨Or.inl rfl, ?_⟩, fun q => ⟨Or.inr rfl, ?_⟩⟩, fun q => absurd q (by decide), fun q => absurd q (by decide), fun q => absurd q (by decide), fun q => absurd q (by decide), fun q => absurd q (by decide), fun q => absurd q (by decide), fun q => absurd rfl q.2.1⟩, fun q => absurd q (by decide)⟩⟩
      · have : z = 0 := by omega
        subst this; exact r_tru (l := l) z01 hq
      · have : z = 1 := by omega
        subst this; exact r_tru (l := l) z01 hq
  · obtain ⟨z, z01, hz⟩ := tr (b < a)
    refine ⟨1, z, Or.inr (Or.inl ⟨rfl, z01⟩), fun Q M tp h6 t0 t1 hq => ?_, fun G Q R l hq => ?_⟩
    · unfold w_X4_reckon w_X4_reckon_b95
      refine ⟨fun q => absurd q (by decide), fun q => absurd q (by decide), fun _ => ⟨fun q => ⟨Or.inl rfl, ?_⟩, fun q => ⟨Or.inr rfl, ?_⟩⟩, fun q => absurd q (by decide), fun q => absurd q (by decide), fun q => absurd q (by decide), fun q => absurd q (by decide), fun q => absurd rfl q.2.2.1⟩
      · have : z = 0 := by omega
        subst this; exact p_pushT h6 t0 t1 z01 hq
      · have : z = 1 := by omega
        subst this; exact p_pushT h6 t0 t1 z01 hq
    · unfold rAr w_X12_workTwo_b210 w_X12_workTwo_b311
      refine ⟨fun q => absurd q (by decide), fun _ => ⟨fun _ => ⟨fun q => absurd q (by decide), fun q => absurd q (by decide), fun _ => ⟨fun q => ⟨Or.inl rfl, ?_⟩, fun q => ⟨Or.inr rfl, ?_⟩⟩, fun q => absurd q (by decide), fun q => absurd q (by decide), fun q => absurd q (by decide), fun q => absurd q (by decide), fun q => absurd q (by decide), fun q => absurd rfl q.2.2.1⟩, fun q => absurd q (by decide)⟩⟩
      · have : z = 0 := by omega
        subst this; exact r_tru (l := l) z01 hq
      · have : z = 1 := by omega
        subst this; exact r_tru (l := l) z01 hq
  · obtain ⟨z, z01, hz⟩ := tr (b ≤ a)
    refine ⟨1, z, Or.inr (Or.inl ⟨rfl, z01⟩), fun Q M tp h6 t0 t1 hq => ?_, fun G Q R l hq => ?_⟩
    · unfold w_X4_reckon w_X4_reckon_b114
      refine ⟨fun q => absurd q (by decide), fun q => absurd q (by decide), fun q => absurd q (by decide), fun _ => ⟨fun q => ⟨Or.inl rfl, ?_⟩, fun q => ⟨Or.inr rfl, ?_⟩⟩, fun q => absurd q (by decide), fun q => absurd q (by decide), fun q => absurd q (by decide), fun q => absurd rfl q.2.2.2.1⟩
      · have : z = 0 := by omega
        subst this; exact p_pushT h6 t0 t1 z01 hq
      · have : z = 1 := by omega
        subst this; exact p_pushT h6 t0 t1 z01 hq
    · unfold rAr w_X12_workTwo_b210 w_X12_workTwo_b330
      refine ⟨fun q => absurd q (by decide), fun _ => ⟨fun _ => ⟨fun q => absurd q (by decide), fun q => absurd q (by decide), fun q => absurd q (by decide), fun _ => ⟨fun q => ⟨Or.inl rfl, ?_⟩, fun q => ⟨Or.inr rfl, ?_⟩⟩, fun q => absurd q (by decide), fun q => absurd q (by decide), fun q => absurd q (by decide), fun q => absurd q (by decide), fun q => absurd rfl q.2.2.2.1⟩, fun q => absurd q (by decide)⟩⟩
      · have : z = 0 := by omega
        subst this; exact r_tru (l := l) z01 hq
      · have : z = 1 := by omega
        subst this; exact r_tru (l := l) z01 hq
  · refine ⟨0, w64 (a + b), Or.inl rfl, fun Q M tp h6 t0 t1 hq => ?_, fun G Q R l hq => ?_⟩
    · unfold w_X4_reckon
      exact ⟨fun q => absurd q (by decide), fun q => absurd q (by decide), fun q => absurd q (by decide), fun q => absurd q (by decide), fun _ => p_push h6 t0 t1 hq, fun q => absurd q (by decide), fun q => absurd q (by decide), fun q => absurd rfl q.2.2.2.2.1⟩
    · unfold rAr w_X12_workTwo_b210
      exact ⟨fun q => absurd q (by decide), fun _ => ⟨fun _ => ⟨fun q => absurd q (by decide), fun q => absurd q (by decide), fun q => absurd q (by decide), fun q => absurd q (by decide), fun _ => r_giv (l := l) hq, fun q => absurd q (by decide), fun q => absurd q (by decide), fun q => absurd q (by decide), fun q => absurd rfl q.2.2.2.2.1⟩, fun q => absurd q (by decide)⟩⟩
  · refine ⟨0, w64 (a - b), Or.inl rfl, fun Q M tp h6 t0 t1 hq => ?_, fun G Q R l hq => ?_⟩
    · unfold w_X4_reckon
      exact ⟨fun q => absurd q (by decide), fun q => absurd q (by decide), fun q => absurd q (by decide), fun q => absurd q (by decide), fun q => absurd q (by decide), fun _ => p_push h6 t0 t1 hq, fun q => absurd q (by decide), fun q => absurd rfl q.2.2.2.2.2.1⟩
    · unfold rAr w_X12_workTwo_b210
      exact ⟨fun q => absurd q (by decide), fun _ => ⟨fun _ => ⟨fun q => absurd q (by decide), fun q => absurd q (by decide), fun q => absurd q (by decide), fun q => absurd q (by decide), fun q => absurd q (by decide), fun _ => r_giv (l := l) hq, fun q => absurd q (by decide), fun q => absurd q (by decide), fun q => absurd rfl q.2.2.2.2.2.1⟩, fun q => absurd q (by decide)⟩⟩
  · refine ⟨0, w64 (a * b), Or.inl rfl, fun Q M tp h6 t0 t1 hq => ?_, fun G Q R l hq => ?_⟩
    · unfold w_X4_reckon
      exact ⟨fun q => absurd q (by decide), fun q => absurd q (by decide), fun q => absurd q (by decide), fun q => absurd q (by decide), fun q => absurd q (by decide), fun q => absurd q (by decide), fun _ => p_push h6 t0 t1 hq, fun q => absurd rfl q.2.2.2.2.2.2⟩
    · unfold rAr w_X12_workTwo_b210
      exact ⟨fun q => absurd q (by decide), fun _ => ⟨fun _ => ⟨fun q => absurd q (by decide), fun q => absurd q (by decide), fun q => absurd q (by decide), fun q => absurd q (by decide), fun q => absurd q (by decide), fun q => absurd q (by decide), fun _ => r_giv (l := l) hq, fun q => absurd q (by decide), fun q => absurd rfl q.2.2.2.2.2.2.1⟩, fun q => absurd q (by decide)⟩⟩
  · by_cases b0 : b = 0
    · refine ⟨4, 0, Or.inr (Or.inr (Or.inr (Or.inr ⟨rfl, rfl⟩))), fun Q M tp h6 t0 t1 hq => ?_, fun G Q R l hq => ?_⟩
      · unfold w_X4_reckon w_X4_divide
        exact ⟨fun q => absurd q (by decide), fun q => absurd q (by decide), fun q => absurd q (by decide), fun q => absurd q (by decide), fun q => absurd q (by decide), fun q => absurd q (by decide), fun q => absurd q (by decide), fun _ => ⟨fun q => absurd b0 q, fun _ => p_push h6 t0 t1 hq⟩⟩
      · unfold rAr w_X12_workTwo_b198 w_X12_workTwo_b205
        exact ⟨fun _ => ⟨fun q => absurd b0 q, fun _ => r_no (l := l) hq⟩, fun q => absurd (by decide) q⟩
    · refine ⟨0, w64 (Int.tdiv a b), Or.inl rfl, fun Q M tp h6 t0 t1 hq => ?_, fun G Q R l hq => ?_⟩
      · unfold w_X4_reckon w_X4_divide w_X4_divide_b35
        exact ⟨fun q => absurd q (by decide), fun q => absurd q (by decide), fun q => absurd q (by decide), fun q => absurd q (by decide), fun q => absurd q (by decide), fun q => absurd q (by decide), fun q => absurd q (by decide), fun _ => ⟨fun _ => ⟨fun q => absurd rfl q, fun _ => ⟨b0, p_push h6 t0 t1 hq⟩⟩, fun q => absurd q b0⟩⟩
      · unfold rAr w_X12_workTwo_b198 w_X12_workTwo_b210
        exact ⟨fun _ => ⟨fun _ => ⟨fun q => absurd q (by decide), fun q => absurd q (by decide), fun q => absurd q (by decide), fun q => absurd q (by decide), fun q => absurd q (by decide), fun q => absurd q (by decide), fun q => absurd q (by decide), fun _ => ⟨b0, r_giv (l := l) hq⟩, fun q => absurd rfl q.2.2.2.2.2.2.2⟩, fun q => absurd q b0⟩, fun q => absurd (by decide) q⟩
  · by_cases b0 : b = 0
    · refine ⟨4, 0, Or.inr (Or.inr (Or.inr (Or.inr ⟨rfl, rfl⟩))), fun Q M tp h6 t0 t1 hq => ?_, fun G Q R l hq => ?_⟩
      · unfold w_X4_reckon w_X4_divide
        exact ⟨fun q => absurd q (by decide), fun q => absurd q (by decide), fun q => absurd q (by decide), fun q => absurd q (by decide), fun q => absurd q (by decide), fun q => absurd q (by decide), fun q => absurd q (by decide), fun _ => ⟨fun q => absurd b0 q, fun _ => p_push h6 t0 t1 hq⟩⟩
      · unfold rAr w_X12_workTwo_b198 w_X12_workTwo_b205
        exact ⟨fun q => absurd q (by decide), fun _ => ⟨fun q => absurd (by decide) q, fun _ => ⟨fun q => absurd b0 q, fun _ => r_no (l := l) hq⟩⟩⟩
    · refine ⟨0, w64 (a - Int.tdiv a b * b), Or.inl rfl, fun Q M tp h6 t0 t1 hq => ?_, fun G Q R l hq => ?_⟩
      · unfold w_X4_reckon w_X4_divide w_X4_divide_b35
        exact ⟨fun q => absurd q (by decide), fun q => absurd q (by decide), fun q => absurd q (by decide), fun q => absurd q (by decide), fun q => absurd q (by decide), fun q => absurd q (by decide), fun q => absurd q (by decide), fun _ => ⟨fun _ => ⟨fun _ => ⟨b0, p_push h6 t0 t1 hq⟩, fun q => absurd q (by decide)⟩, fun q => absurd q b0⟩⟩
      · unfold rAr w_X12_workTwo_b198 w_X12_workTwo_b210
        exact ⟨fun q => absurd q (by decide), fun _ => ⟨fun q => absurd (by decide) q, fun _ => ⟨fun _ => ⟨fun q => absurd q (by decide), fun q => absurd q (by decide), fun q => absurd q (by decide), fun q => absurd q (by decide), fun q => absurd q (by decide), fun q => absurd q (by decide), fun q => absurd q (by decide), fun q => absurd q (by decide), fun _ => ⟨b0, r_giv (l := l) hq⟩⟩, fun q => absurd q b0⟩⟩⟩
def CL2 (M0 : MM) (o so1 v1 so2 v2 so v : Int) : Prop := ∀ (Q : Int → MM → Prop) (M : MM) (tp : Int), CB M0 M → M 219 6 = tp + 2 → M 220 tp = so1 → M 221 tp = v1 → M 220 (tp + 1) = so2 → M 221 (tp + 1) = v2 → 0 ≤ tp → tp + 1 < 121 → (∀ M1 M', M1 = ux_ M 219 6 tp → Psh tp so v M1 M' → Q 0 M') → w_X4_doTwo Q o M
def rTl (G : Nat → (Int → MM → Prop) → List Int → MM → Prop) (Q : Int → MM → Prop) (s a b k : Int) (R : MM) : Prop := (s = 2 → w_X12_workTwo_b62 G Q s a b k R) ∧ (¬ s = 2 → (¬ s = 3 → w_X12_workTwo_b82 G Q s a b k R) ∧ (s = 3 → w_X12_workTwo_b62 G Q s a b k R))
theorem r_tl {G : Nat → (Int → MM → Prop) → List Int → MM → Prop} {Q : Int → MM → Prop} {s a b k so2 : Int} {R : MM} (hs : R 0 99 = so2) (h : ∀ lk : Int, (lk = 0 ∨ lk = 1) → (lk = 1 ↔ (s = 2 ∨ s = 3) ∧ (so2 = 2 ∨ so2 = 3)) → w_X12_workTwo_b83 G Q s a b k lk R) : rTl G Q s a b k R := by
  have b62 : s = 2 ∨ s = 3 → w_X12_workTwo_b62 G Q s a b k R := fun hs2 => by
    unfold w_X12_workTwo_b62 w_X12_workTwo_b78 w_X12_workTwo_b82
    exact fun v1 e1 _ => ⟨fun z => h 1 (Or.inr rfl) ⟨fun _ => ⟨hs2, Or.inl (by omega)⟩, fun _ => rfl⟩, fun z v3 e3 _ => ⟨fun z3 => h 0 (Or.inl rfl) ⟨fun q => absurd q (by decide), fun q => by omega⟩, fun z3 => h 1 (Or.inr rfl) ⟨fun _ => ⟨hs2, Or.inr (by omega)⟩, fun _ => rfl⟩⟩⟩
  unfold rTl
  refine ⟨fun z => b62 (Or.inl z), fun z => ⟨fun z3 => ?_, fun z3 => b62 (Or.inr z3)⟩⟩
  unfold w_X12_workTwo_b82
  exact h 0 (Or.inl rfl) ⟨fun q => absurd q (by decide), fun q => by omega⟩
theorem VV_r {n so v : Int} (h : VV n so v) : 0 ≤ so ∧ so ≤ 4 := by rcases h with h | ⟨h, -⟩ | ⟨h, -⟩ | ⟨h, -⟩ | ⟨h, -⟩ <;> omega
theorem two_spec {c pc : Nat} {M0 R0 : MM} {p B : Int} {o so1 v1 so2 v2 : Int} (hE : EnvQ c pc M0 R0 p B) (o0 : 16 ≤ o) (o1 : o ≤ 26) (hV1 : VV (M0 pc 0) so1 v1) (hV2 : VV (M0 pc 0) so2 v2) : ∃ so v, VV (M0 pc 0) so v ∧ CL2 M0 o so1 v1 so2 v2 so v ∧ ∀ (G : Nat → (Int → MM → Prop) → List Int → MM → Prop) (Q : Int → MM → Prop) (R : MM) (l : Int), R 0 99 = so2 → (∀ R', EWr l R R' → R' 0 98 = R 0 98 → R' 0 103 = R 0 103 → R' 0 99 = so → R' 0 102 = v → Q 0 R') → rTl G Q so1 v1 v2 (o + 86) R := by
  have NO : VV (M0 pc 0) 4 0 := Or.inr (Or.inr (Or.inr (Or.inr ⟨rfl, rfl⟩)))
  have g1 := VV_r hV1
  have g2 := VV_r hV2
  by_cases eq : o = 16 ∨ o = 17
  · by_cases ok : so1 ≠ 4 ∧ (so1 = so2 ∨ ((so1 = 2 ∨ so1 = 3) ∧ (so2 = 2 ∨ so2 = 3)))
    · obtain ⟨z, z01, hz⟩ : ∃ z : Int, (z = 0 ∨ z = 1) ∧ (z = 1 ↔ ((so1 = so2 ∧ v1 = v2) ↔ o = 16)) := by
        by_cases h : (so1 = so2 ∧ v1 = v2) ↔ o = 16
        · exact ⟨1, Or.inr rfl, ⟨fun _ => h, fun _ => rfl⟩⟩
        · exact ⟨0, Or.inl rfl, ⟨fun q => absurd q (by decide), fun q => absurd q h⟩⟩
      refine ⟨1, z, Or.inr (Or.inl ⟨rfl, z01⟩), fun Q M tp hC h6 a1 a2 a3 a4 t0 t1 hq => ?_, fun G Q R l hs hq => ?_⟩
      · refine c_two h6 a1 a2 a3 a4 t0 t1 (fun M5 e5 => ⟨fun _ => ?_, fun y1 y2 => by omega, fun y => by omega, fun y => by omega, fun _ y1 y2 => by omega, fun _ y1 y2 => by omega⟩)
        have h5 : M5 219 6 = tp := by rw [e5, ux_s]
        have b84 : w_X4_compare_b78 (fun _ M => Q 0 M) z M5 := by
          unfold w_X4_compare_b78
          exact ⟨z01, p_pushT h5 t0 (by omega) z01 (fun M' h => hq M5 M' e5 h)⟩
        have b65 : ∀ s0 : Int, (s0 = 0 ∨ s0 = 1) → (s0 = 1 ↔ so1 = so2 ∧ v1 = v2) → w_X4_compare_b59 (fun _ M => Q 0 M) o s0 M5 := fun s0 s01 h0 => by
          unfold w_X4_compare_b59 w_X4_compare_b70
          have key : ∀ y : Int, (y = 0 ∨ y = 1) → (y = 1 ↔ o = 16) → (¬ s0 = y → z = 0) ∧ (s0 = y → z = 1) := fun y y01 hy => by
            refine ⟨fun ne => ?_, fun e => hz.mpr ?_⟩
            · rcases z01 with q | q
              · exact q
              · have := hz.mp q
                rw [← h0, ← hy] at this
                omega
            · rw [← h0, ← hy]; omega
          refine ⟨fun y => ⟨fun w => ?_, fun w => ?_⟩, fun y => ⟨fun w => ?_, fun w => ?_⟩⟩
          · have := (key 0 (Or.inl rfl) ⟨fun q => absurd q (by decide), fun q => absurd q y⟩).1 w
            rw [this] at b84; exact b84
          · have := (key 0 (Or.inl rfl) ⟨fun q => absurd q (by decide), fun q => absurd q y⟩).2 w
            rw [this] at b84; exact b84
          · have := (key 1 (Or.inr rfl) ⟨fun _ => y, fun _ => rfl⟩).1 w
            rw [this] at b84; exact b84
          · have := (key 1 (Or.inr rfl) ⟨fun _ => y, fun _ => rfl⟩).2 w
            rw [this] at b84; exact b84
        have b49 : w_X4_compare_b43 (fun _ M => Q 0 M) o so1 so2 (if v1 = v2 then 1 else 0) M5 := by
          unfold w_X4_compare_b43 w_X4_compare_b58
          by_cases ev : v1 = v2
          · rw [if_pos ev]
            exact ⟨fun y => b65 0 (Or.inl rfl) ⟨fun q => absurd q (by decide), fun q => absurd q.1 y⟩, fun y => ⟨fun q => absurd q (by decide), fun _ => b65 1 (Or.inr rfl) ⟨fun _ => ⟨y, ev⟩, fun _ => rfl⟩⟩⟩
          · rw [if_neg ev]
            exact ⟨fun y => b65 0 (Or.inl rfl) ⟨fun q => absurd q (by decide), fun q => absurd q.1 y⟩, fun y => ⟨fun _ => b65 0 (Or.inl rfl) ⟨fun q => absurd q (by decide), fun q => absurd q.2 ev⟩, fun q => absurd rfl q⟩⟩
        have b25 : ∀ s0 : Int, ((so1 = 2 ∨ so1 = 3) ∧ (so2 = 2 ∨ so2 = 3) → s0 ≠ 0) → w_X4_compare_b19 (fun _ M => Q 0 M) o so1 so2 (if v1 = v2 then 1 else 0) s0 M5 := fun s0 h0 => by
          unfold w_X4_compare_b19
          exact ⟨fun y => absurd y ok.1, fun _ => ⟨fun _ => b49, fun y => ⟨fun _ => b49, fun q => absurd q (h0 (by rcases ok.2 with w | w; exact absurd w y; exact w))⟩⟩⟩
        exact p_compare (fun s0 _ hs => b25 s0 (fun q => by have := hs.mpr q; omega))
      · refine r_tl hs (fun lk l01 hl => ?_)
        have b162 : w_X12_workTwo_b162 G Q z R := by
          unfold w_X12_workTwo_b162
          exact ⟨z01, r_tru (l := l) z01 hq⟩
        have b139 : ∀ s0 : Int, (s0 = 0 ∨ s0 = 1) → (s0 = 1 ↔ so1 = so2 ∧ v1 = v2) → w_X12_workTwo_b139 G Q (o + 86) s0 R := fun s0 s01 h0 => by
          unfold w_X12_workTwo_b139 w_X12_workTwo_b154
          have key : ∀ y : Int, (y = 0 ∨ y = 1) → (y = 1 ↔ o = 16) → (¬ s0 = y → z = 0) ∧ (s0 = y → z = 1) := fun y y01 hy => by
            refine ⟨fun ne => ?_, fun e => hz.mpr ?_⟩
            · rcases z01 with q | q
              · exact q
              · have := hz.mp q
                rw [← h0, ← hy] at this
                omega
            · rw [← h0, ← hy]; omega
          refine ⟨fun y => ⟨fun w => ?_, fun w => ?_⟩, fun y => ⟨fun w => ?_, fun w => ?_⟩⟩
          · have := (key 0 (Or.inl rfl) ⟨fun q => absurd q (by decide), fun q => by omega⟩).1 w
            rw [this] at b162; exact b162
          · have := (key 0 (Or.inl rfl) ⟨fun q => absurd q (by decide), fun q => by omega⟩).2 w
            rw [this] at b162; exact b162
          · have := (key 1 (Or.inr rfl) ⟨fun _ => by omega, fun _ => rfl⟩).1 w
            rw [this] at b162; exact b162
          · have := (key 1 (Or.inr rfl) ⟨fun _ => by omega, fun _ => rfl⟩).2 w
            rw [this] at b162; exact b162
        have b119 : ∀ s0 : Int, (s0 = 0 ∨ s0 = 1) → (s0 = 1 ↔ so1 = so2 ∧ v1 = v2) → w_X12_workTwo_b119 G Q so1 (o + 86) lk s0 R := fun s0 s01 h0 => by
          unfold w_X12_workTwo_b119
          refine ⟨fun _ => b139 s0 s01 h0, fun y w2 ew2 _ => ?_⟩
          have nl : ¬ ((so1 = 2 ∨ so1 = 3) ∧ (so2 = 2 ∨ so2 = 3)) := fun q => by have := hl.mpr q; omega
          have e : so1 = so2 := by rcases ok.2 with w | w; exact w; exact absurd w nl
          exact ⟨fun q => by omega, fun _ => ⟨fun q => by omega, fun _ => b139 s0 s01 h0⟩⟩
        have b99 : w_X12_workTwo_b99 G Q so1 v1 v2 (o + 86) lk R := by
          unfold w_X12_workTwo_b99 w_X12_workTwo_b118
          exact fun w1 ew1 _ => ⟨fun q => b119 0 (Or.inl rfl) ⟨fun q => absurd q (by decide), fun w => by omega⟩, fun q => ⟨fun q2 => b119 0 (Or.inl rfl) ⟨fun q => absurd q (by decide), fun w => absurd w.2 q2⟩, fun q2 => b119 1 (Or.inr rfl) ⟨fun _ => ⟨by omega, q2⟩, fun _ => rfl⟩⟩⟩
        unfold w_X12_workTwo_b83
        exact ⟨fun _ => b99, fun y => ⟨fun y2 => by omega, fun _ => b99⟩⟩
    · refine ⟨4, 0, NO, fun Q M tp hC h6 a1 a2 a3 a4 t0 t1 hq => ?_, fun G Q R l hs hq => ?_⟩
      · refine c_two h6 a1 a2 a3 a4 t0 t1 (fun M5 e5 => ⟨fun _ => ?_, fun y1 y2 => by omega, fun y => by omega, fun y => by omega, fun _ y1 y2 => by omega, fun _ y1 y2 => by omega⟩)
        have h5 : M5 219 6 = tp := by rw [e5, ux_s]
        have b25 : ∀ x s0 : Int, (s0 ≠ 0 → (so1 = 2 ∨ so1 = 3) ∧ (so2 = 2 ∨ so2 = 3)) → w_X4_compare_b19 (fun _ M => Q 0 M) o so1 so2 x s0 M5 := fun x s0 h0 => by
          have b42 : w_X4_compare_b36 (fun _ M => Q 0 M) M5 := by
            unfold w_X4_compare_b36
            exact p_push h5 t0 (by omega) (fun M' h => hq M5 M' e5 h)
          unfold w_X4_compare_b19
          exact ⟨fun _ => b42, fun y => ⟨fun y2 => absurd ⟨y, Or.inl y2⟩ ok, fun y2 => ⟨fun y3 => absurd ⟨y, Or.inr (h0 y3)⟩ ok, fun _ => b42⟩⟩⟩
        exact p_compare (fun s0 s01 hs => b25 _ s0 (fun q => hs.mp (by omega)))
      · refine r_tl hs (fun lk l01 hl => ?_)
        have b119 : ∀ s0 : Int, w_X12_workTwo_b119 G Q so1 (o + 86) lk s0 R := fun s0 => by
          unfold w_X12_workTwo_b119 w_X12_workTwo_b168
          refine ⟨fun y => ?_, fun y w2 ew2 _ => ⟨fun _ => r_no (l := l) hq, fun q => ⟨fun _ => r_no (l := l) hq, fun q2 => absurd ⟨by omega, Or.inl (by omega)⟩ ok⟩⟩⟩
          have := hl.mp (by omega)
          exact absurd ⟨by omega, Or.inr this⟩ ok
        have b99 : w_X12_workTwo_b99 G Q so1 v1 v2 (o + 86) lk R := by
          unfold w_X12_workTwo_b99 w_X12_workTwo_b118
          exact fun w1 ew1 _ => ⟨fun q => b119 0, fun q => ⟨fun q2 => b119 0, fun q2 => b119 1⟩⟩
        unfold w_X12_workTwo_b83
        exact ⟨fun _ => b99, fun y => ⟨fun y2 => by omega, fun _ => b99⟩⟩
  · by_cases nn : so1 = 0 ∧ so2 = 0
    · obtain ⟨rfl, rfl⟩ := nn
      obtain ⟨so, v, a1, a2, a3⟩ := ar_spec (M0 pc 0) o v1 v2 (by omega) o1
      refine ⟨so, v, a1, fun Q M tp hC h6 d1 d2 d3 d4 t0 t1 hq => ?_, fun G Q R l hs hq => ?_⟩
      · exact c_two h6 d1 d2 d3 d4 t0 t1 (fun M5 e5 => ⟨fun y => by omega, fun _ _ y => absurd rfl y, fun y => by omega, fun y => by omega, fun _ _ _ _ _ => a2 _ M5 tp (by rw [e5, ux_s]) t0 (by omega) (fun M' h => hq M5 M' e5 h), fun _ _ _ _ y => absurd rfl y⟩)
      · refine r_tl hs (fun lk l01 hl => ?_)
        have := a3 G Q R l hq
        unfold w_X12_workTwo_b83
        exact ⟨fun y => by omega, fun _ => ⟨fun _ => ⟨fun y => absurd rfl y, fun _ w4 ew4 _ => ⟨fun y => by omega, fun _ => this⟩⟩, fun y => by omega⟩⟩
    · refine ⟨4, 0, NO, fun Q M tp hC h6 d1 d2 d3 d4 t0 t1 hq => ?_, fun G Q R l hs hq => ?_⟩
      · exact c_two h6 d1 d2 d3 d4 t0 t1 (fun M5 e5 => ⟨fun y => by omega, fun _ _ _ => p_push (by rw [e5, ux_s]) t0 (by omega) (fun M' h => hq M5 M' e5 h), fun y => by omega, fun y => by omega, fun _ _ _ y y2 => absurd ⟨y2, y⟩ nn, fun _ _ _ _ _ => p_push (by rw [e5, ux_s]) t0 (by omega) (fun M' h => hq M5 M' e5 h)⟩)
      · refine r_tl hs (fun lk l01 hl => ?_)
        have no : w_X12_workTwo_b205 G Q R := by
          unfold w_X12_workTwo_b205
          exact r_no (l := l) hq
        unfold w_X12_workTwo_b83
        exact ⟨fun y => by omega, fun _ => ⟨fun _ => ⟨fun _ => no, fun y w4 ew4 _ => ⟨fun _ => no, fun y2 => absurd ⟨y, by omega⟩ nn⟩⟩, fun y => by omega⟩⟩
