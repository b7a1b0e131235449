/-! rules are read: one part of a body -/
def KWn (C0 : MM) : Prop := ∀ x, 0 ≤ x → x < 29 → C0 7 x ≠ C0 261 1 ∧ C0 7 x ≠ C0 261 2
def AtK (A R : MM) (i : Int) : Prop := (0 ≤ A 267 i ∧ A 267 i < A 261 16 ∧ A 267 i < 6 ∧ R 88 i = 0 ∧ R 89 i = A 267 i ∧ (R 91 i = -1 ∧ A 269 i = A 268 i ∧ A 273 (A 267 i) = 1 ∨ R 91 i = A 269 i ∧ A 273 (A 267 i) = 2)) ∨ (A 267 i = 6 ∧ R 88 i = 1 ∧ R 91 i = A 269 i) ∨ (A 267 i = 9 ∧ R 88 i = 2 ∧ nr (A 270 i) (R 82 i) ∧ A 269 i = A 268 i ∧ R 91 i = -1) ∨ (A 267 i = 7 ∧ R 88 i = 3 ∧ R 91 i = A 269 i) ∨ (A 267 i = 8 ∧ R 88 i = 4 ∧ R 91 i = A 269 i)
def ATM (A R : MM) (i : Int) : Prop := AtK A R i ∧ R 90 i = A 268 i ∧ 0 ≤ A 268 i ∧ A 268 i < A 261 14 ∧ 0 ≤ A 269 i ∧ A 269 i < A 261 14
/-- what reading a part leaves of the data -/
def AFe (A A' : MM) (i0 : Int) : Prop := (∀ q, 262 ≤ q → q ≤ 266 → A' q = A q) ∧ (∀ q i, 267 ≤ q → q ≤ 270 → i ≠ i0 → A' q i = A q i) ∧ A' 261 3 = A 261 3 ∧ A 261 14 ≤ A' 261 14 ∧ A 261 16 ≤ A' 261 16 ∧ ∀ i, 0 ≤ i → i < A 261 16 → A 273 i ≠ 0 → A' 273 i = A 273 i
def FAt (R R' : MM) (i0 r : Int) : Prop := (∀ q i, q = 82 ∨ 88 ≤ q ∧ q ≤ 91 → i ≠ i0 → R' q i = R q i) ∧ (∀ q, 84 ≤ q → q ≤ 86 → R' q = R q) ∧ R' 92 = R 92 ∧ ∀ i, i ≠ r → R' 87 i = R 87 i
theorem ATM_m {A A' R R' : MM} {i i0 r : Int} (h : ATM A R i) (ne : i ≠ i0) (a : AFe A A' i0) (f : FAt R R' i0 r) : ATM A' R' i := by
  obtain ⟨hk, h1, h2, h3, h4, h5⟩ := h
  obtain ⟨a1, a2, a3, a4, a5, a6⟩ := a
  obtain ⟨f1, f2, f3, f4⟩ := f
  have e : ∀ q, 267 ≤ q → q ≤ 270 → A' q i = A q i := fun q x y => a2 q i x y ne
  have g : ∀ q, q = 82 ∨ 88 ≤ q ∧ q ≤ 91 → R' q i = R q i := fun q x => f1 q i x ne
  unfold ATM AtK at *
  rw [e 267 (by omega) (by omega), e 268 (by omega) (by omega), e 269 (by omega) (by omega), e 270 (by omega) (by omega), g 82 (by omega), g 88 (by omega), g 89 (by omega), g 90 (by omega), g 91 (by omega)]
  refine ⟨?_, h1, h2, by omega, h4, by omega⟩
  rcases hk with ⟨k1, k2, k3, k4, k5, k6⟩ | hk
  · refine Or.inl ⟨k1, by omega, k3, k4, k5, ?_⟩
    rcases k6 with ⟨x, y, z⟩ | ⟨x, z⟩
    · exact Or.inl ⟨x, y, by rw [a6 _ k1 k2 (by omega)]; exact z⟩
    · exact Or.inr ⟨x, by rw [a6 _ k1 k2 (by omega)]; exact z⟩
  · exact Or.inr hk
theorem q_lk {C0 R0 A R : MM} {E : Nat → Int} {L k : Nat} (hT : TX C0 R0 E L) (h : KRq C0 R0 E k A R) (hA : OKA C0 A) (hN : KWn C0) : R 0 80 = 1 → (R 0 85 = 12184058 ↔ C0 4 k = 2 ∧ C0 6 k = C0 261 2) ∧ (R 0 85 = 2877 ↔ C0 4 k = 2 ∧ C0 6 k = C0 261 1) := fun h80 => by
  have n1 := hA.2.2.2.2.2.2.2.2.2.2.1
  have n2 := hA.2.2.2.2.2.2.2.2.2.2.2.1
  have ht := h.2.1.2.2
  have hK : Kd R := by
    have := hT.2.2.2.2.2
    unfold Kd at this ⊢
    rw [h.1.1 3 (by decide) (by omega)]; exact this
  rcases Classical.em (C0 4 k = 2) with w2 | w2
  · rw [w2] at ht
    have hn := tk_nr ht
    exact ⟨⟨fun q => ⟨w2, (nr_eq hn n2).mpr q⟩, fun q => (nr_eq hn n2).mp q.2⟩, ⟨fun q => ⟨w2, (nr_eq hn n1).mpr q⟩, fun q => (nr_eq hn n1).mp q.2⟩⟩
  · -- a keyword
    have hkw : ∃ x, 0 ≤ x ∧ x < 29 ∧ R 0 85 = R 3 (kp x) := by
      rcases ht with ⟨a, b⟩ | ⟨a, b⟩ | ⟨a, b, -⟩ | ⟨a, b, -⟩ | ⟨j, j0, j1, a, b, -⟩ | ⟨a, b, -⟩ | ⟨a, b, -⟩ | ⟨a, b, -⟩ | ⟨j, j0, j1, a, b, d⟩
      · omega
      · omega
      · exact absurd a w2
      · omega
      · omega
      · omega
      · omega
      · omega
      · exact ⟨j, j0, j1, d⟩
    obtain ⟨x, x0, x1, ex⟩ := hkw
    have hr := hT.2.2.2.2.1 x x0 x1
    rw [← h.1.1 3 (by decide) (by omega), ← ex] at hr
    obtain ⟨m1, m2⟩ := hN x x0 x1
    exact ⟨⟨fun q => absurd ((nr_eq hr n2).mpr q) m2, fun q => absurd q.1 w2⟩, ⟨fun q => absurd ((nr_eq hr n1).mpr q) m1, fun q => absurd q.1 w2⟩⟩
theorem q_nm {C0 R0 A R : MM} {E : Nat → Int} {k : Nat} (h : KRq C0 R0 E k A R) (hw : C0 4 k = 2) : R 0 80 = 1 ∧ nr (C0 6 k) (R 0 85) := by
  have ht := h.2.1.2.2
  rw [hw] at ht
  exact ⟨((tk_nm ht).mpr rfl).1, tk_nr ht⟩
/-- the reference comes to a part -/
theorem q_at {C0 R0 A R : MM} {E : Nat → Int} {L k : Nat} (hT : TX C0 R0 E L) (h : KRq C0 R0 E k A R) (hA : OKA C0 A) (hN : KWn C0) {r x1 : Int} (r0 : 0 ≤ r) (r1 : r < 12) (h87 : R 87 r = x1) {Q : Int → MM → Prop} (h1 : C0 4 k = 2 → C0 6 k ≠ C0 261 1 → x1 ≠ 4 → w_X12_readAtomOf_b69 Q r (if C0 6 k = C0 261 2 then 1 else 0) R) (h2 : ¬ (C0 4 k = 2 ∧ C0 6 k ≠ C0 261 1) → ∀ R', KRf R0 (if C0 4 k = 1 then 2 else 1) (C0 5 k) R' → Q 0 R') (h3 : C0 4 k = 2 → C0 6 k ≠ C0 261 1 → x1 = 4 → ∀ R', KRf R0 4 (C0 5 k) R' → Q 0 R') : w_X12_readAtomOf Q r R := by
  have h83 := h.2.2.1
  have b69F : ∀ (x2 : Int) R' f pl, 0 < f → KRf R0 f pl R' → Q 0 R' → w_X12_readAtomOf_b69 Q r x2 R' := fun x2 R' f pl f0 k1 hq => by
    unfold w_X12_readAtomOf_b69
    intro v1 e1 _
    exact ⟨fun z => by rw [e1, k1.2.1] at z; omega, fun _ => hq⟩
  have b43 : ∀ s0, C0 4 k = 2 → C0 6 k ≠ C0 261 1 → s0 = (if C0 6 k = C0 261 2 then 1 else 0) → w_X12_readAtomOf_b43 Q r s0 R := fun s0 w2 wi es => by
    unfold w_X12_readAtomOf_b43
    intro v1 e1 _
    refine ⟨fun z => absurd (by rw [e1]; exact h83) z, fun _ => ⟨r0, r1, fun v3 e3 _ => ⟨fun z => ?_, fun z v5 e5 _ => ?_⟩⟩⟩
    · rw [es]; exact h1 w2 wi (by omega)
    · rw [e5, h.2.1.2.1]
      exact q_fail h (fun R' k1 _ => b69F _ R' _ _ (by decide) k1 (h3 w2 wi (by omega) R' k1))
  have b26 : C0 6 k ≠ C0 261 2 ∨ C0 4 k ≠ 2 → w_X12_readAtomOf_b26 Q r R := fun hn => by
    unfold w_X12_readAtomOf_b26 w_X12_readAtomOf_b27
    refine ⟨fun z => absurd rfl z, fun _ => q_plain h hA (fun p _ => ⟨fun _ => b43 0 p.1 p.2.1 (by rw [if_neg p.2.2]), fun q => absurd q (by decide)⟩) (fun p _ => ⟨fun q => absurd rfl q, fun _ => q_wrong h (fun R' k1 _ => ?_)⟩)⟩
    have no : ¬ (C0 4 k = 2 ∧ C0 6 k ≠ C0 261 1) := fun q => p ⟨q.1, q.2, hn.elim id (fun w => absurd q.1 w)⟩
    unfold w_X12_readAtomOf_b43
    intro v1 e1 _
    exact ⟨fun _ => b69F _ R' _ _ flt_pos k1 (h2 no R' k1), fun z => by rw [e1, k1.2.1] at z; have := flt_pos (W := C0 4 k); omega⟩
  unfold w_X12_readAtomOf
  intro v1 e1 _
  refine ⟨fun z => b26 (Or.inr fun q => z (by rw [e1]; exact (q_nm h q).1)), fun z v3 e3 _ => cd_link (fun _ => ?_)⟩
  have lk := (q_lk hT h hA hN (by rw [← e1]; exact z)).1
  rw [← e3] at lk
  refine ⟨fun y => b26 ?_, fun y => ?_⟩
  · by_cases w : C0 4 k = 2
    · exact Or.inl fun q => y (lk.mpr ⟨w, q⟩)
    · exact Or.inr w
  · obtain ⟨w2, wl⟩ := lk.mp y
    by_cases wi : C0 6 k = C0 261 1
    · -- the two names would be one
      have n1 := hA.2.2.2.2.2.2.2.2.2.2.1
      have n2 := hA.2.2.2.2.2.2.2.2.2.2.2.1
      have := (nr_eq n1 n2).mp (by rw [← wi, wl])
      omega
    · unfold w_X12_readAtomOf_b27
      exact ⟨fun _ => b43 1 w2 wi (by rw [if_pos wl]), fun q => absurd q (by decide)⟩
