/-! rules are read: the state on both sides -/
def OKA (C0 A : MM) : Prop := 0 ≤ A 261 16 ∧ A 261 16 ≤ 6 ∧ 0 ≤ A 261 3 ∧ A 261 3 ≤ 12 ∧ 0 ≤ A 261 14 ∧ A 261 14 ≤ 3 ∧ (∀ i j, 0 ≤ i → i < A 261 14 → 0 ≤ j → j < A 261 14 → A 271 i = A 271 j → i = j) ∧ (∀ i j, 0 ≤ i → i < A 261 16 → 0 ≤ j → j < A 261 16 → A 272 i = A 272 j → i = j) ∧ A 261 1 = C0 261 1 ∧ A 261 2 = C0 261 2 ∧ nr (C0 261 1) 2877 ∧ nr (C0 261 2) 12184058 ∧ ∀ i, 0 ≤ i → i < A 261 16 → A 273 i = 0 ∨ A 273 i = 1 ∨ A 273 i = 2
def KFr (C0 C : MM) : Prop := (∀ q, q ≠ 1 → q < 261 ∨ 273 < q → C q = C0 q) ∧ (∀ i, i ∉ ([8, 9, 10, 11] : List Int) → C 1 i = C0 1 i) ∧ ∀ i, i = 1 ∨ i = 2 → C 261 i = C0 261 i
def KC (C0 : MM) (k : Nat) (A C : MM) : Prop := KFr C0 C ∧ Wd C0 k C ∧ (∀ q, 262 ≤ q → q ≤ 273 → C q = A q) ∧ (∀ i, i ≠ 19 → i ≠ 20 → C 261 i = A 261 i) ∧ C 261 19 = 0 ∧ C 261 20 = -1
def KF (C0 : MM) (f pl : Int) (C : MM) : Prop := KFr C0 C ∧ C 261 19 = f ∧ C 261 20 = pl
def QFr (R0 R : MM) : Prop := (∀ k, k ≠ 0 → k < 80 ∨ 92 < k → R k = R0 k) ∧ ∀ i, i ∉ ([78, 79, 80, 83, 84, 85, 133, 134, 135, 136, 137] : List Int) → R 0 i = R0 0 i
def RUn (A R : MM) : Prop := A 261 16 = R 0 133 ∧ (A 261 3 = R 0 134 ∧ 0 ≤ A 261 3 ∧ A 261 3 ≤ 12) ∧ A 261 14 = R 0 135 ∧ (∀ i, 0 ≤ i → i < A 261 16 → nr (A 272 i) (R 80 i) ∧ A 273 i = R 83 i) ∧ ∀ i, 0 ≤ i → i < A 261 14 → nr (A 271 i) (R 81 i)
def KRq (C0 R0 : MM) (E : Nat → Int) (k : Nat) (A R : MM) : Prop := QFr R0 R ∧ Wr C0 E k R ∧ R 0 83 = 0 ∧ RUn A R
def KRf (R0 : MM) (f pl : Int) (R : MM) : Prop := QFr R0 R ∧ R 0 83 = f ∧ R 0 84 = pl ∧ 0 ≤ R 0 134 ∧ R 0 134 ≤ 12
def KRg (R0 : MM) (f pl : Int) (R : MM) : Prop := QFr R0 R ∧ R 0 83 = f ∧ R 0 84 = pl
def PLN (C0 : MM) (k : Nat) : Prop := C0 4 k = 2 ∧ C0 6 k ≠ C0 261 1 ∧ C0 6 k ≠ C0 261 2
theorem QFr_A {R0 R R' : MM} (h : QFr R0 R) (a : FA R R') : QFr R0 R' := ⟨fun k x y => by rw [a.1 k x]; exact h.1 k x y, fun i hi => by rw [a.2 i (fun y => hi (by simp only [List.mem_cons, List.not_mem_nil, or_false] at y ⊢; omega))]; exact h.2 i hi⟩
theorem QFr_0 {R0 R : MM} (h : QFr R0 R) {i : Int} (v : Int) (hi : i ∈ ([78, 79, 80, 83, 84, 85, 133, 134, 135, 136, 137] : List Int)) : QFr R0 (ux_ R 0 i v) := ⟨fun k x y => by rw [ux_g _ _ _ x]; exact h.1 k x y, fun j hj => by rw [ux_i _ _ _ (fun y => hj (by rw [y]; exact hi))]; exact h.2 j hj⟩
theorem QFr_u {R0 R : MM} (h : QFr R0 R) {q : Nat} (q0 : 80 ≤ q) (q1 : q ≤ 92) (i v : Int) : QFr R0 (ux_ R q i v) := ⟨fun k x y => by rw [ux_g _ _ _ (by omega)]; exact h.1 k x y, fun j hj => by rw [ux_g _ _ _ (by omega)]; exact h.2 j hj⟩
theorem RUn_e {A R R' : MM} (h : RUn A R) (e0 : ∀ i, i ∈ ([133, 134, 135] : List Int) → R' 0 i = R 0 i) (e : ∀ q, q = 80 ∨ q = 81 ∨ q = 83 → R' q = R q) : RUn A R' := by
  unfold RUn at h ⊢
  rw [e0 133 (by decide), e0 134 (by decide), e0 135 (by decide), e 80 (by omega), e 81 (by omega), e 83 (by omega)]
  exact h
theorem RUn_A {A A' R : MM} (h : RUn A R) (e0 : ∀ i, i = 3 ∨ i = 14 ∨ i = 16 → A' 261 i = A 261 i) (e : ∀ q, q = 271 ∨ q = 272 ∨ q = 273 → A' q = A q) : RUn A' R := by
  unfold RUn at h ⊢
  rw [e0 16 (by omega), e0 3 (by omega), e0 14 (by omega), e 271 (by omega), e 272 (by omega), e 273 (by omega)]
  exact h
theorem OKA_e {C0 A A' : MM} (h : OKA C0 A) (e0 : ∀ i, i = 1 ∨ i = 2 ∨ i = 3 ∨ i = 14 ∨ i = 16 → A' 261 i = A 261 i) (e : ∀ q, q = 271 ∨ q = 272 ∨ q = 273 → A' q = A q) : OKA C0 A' := by
  unfold OKA at h ⊢
  rw [e0 16 (by omega), e0 3 (by omega), e0 14 (by omega), e0 1 (by omega), e0 2 (by omega), e 271 (by omega), e 272 (by omega), e 273 (by omega)]
  exact h
theorem k_next {C0 A C : MM} {E : Nat → Int} {L k : Nat} (hT : TKS C0 E L) (h : KC C0 k A C) (hk : k ≤ L) (hw : C0 4 k ≠ 0) {Q : Int → MM → Prop} (hq : ∀ C', KC C0 (k + 1) A C' → Q 0 C') : w_X9_nextWord Q C := by
  obtain ⟨⟨f1, f2, f3⟩, ⟨w1, w2, w3, w4⟩, h3, h4, h5, h6⟩ := id h
  have e : ∀ j, j = 2 ∨ j = 4 ∨ j = 5 ∨ j = 6 ∨ j = 7 → C j = C0 j := fun j hj => f1 j (by omega) (by omega)
  have tC : TKS C E L := TKS_e hT (f2 1 (by decide)) (e 2 (by omega)) (e 7 (by omega)) (e 4 (by omega)) (e 5 (by omega)) (e 6 (by omega))
  refine p_next (k := k) ⟨tC, hk, by rw [e 4 (by omega)]; exact w1, by rw [e 5 (by omega)]; exact w2, by rw [e 6 (by omega)]; exact w3, by rw [e 4 (by omega)]; exact w4⟩ (by rw [e 4 (by omega)]; exact hw) fun M' fw hP => hq M' ⟨⟨fun q a b => by rw [fw.1 q a]; exact f1 q a b, fun i hi => by rw [fw.2 i hi]; exact f2 i hi, fun i hi => by rw [fw.1 261 (by omega)]; exact f3 i hi⟩, ?_, fun q a b => by rw [fw.1 q (by omega)]; exact h3 q a b, fun i a b => by rw [fw.1 261 (by omega)]; exact h4 i a b, by rw [fw.1 261 (by omega)]; exact h5, by rw [fw.1 261 (by omega)]; exact h6⟩
  have e' : ∀ j, j = 4 ∨ j = 5 ∨ j = 6 → M' j = C0 j := fun j hj => by rw [fw.1 j (by omega)]; exact f1 j (by omega) (by omega)
  obtain ⟨-, -, p1, p2, p3, p4⟩ := hP
  rw [e' 4 (by omega)] at p1 p4
  rw [e' 5 (by omega)] at p2
  rw [e' 6 (by omega)] at p3
  exact ⟨p1, p2, p3, p4⟩
theorem k_fail {C0 A C : MM} {k : Nat} (h : KC C0 k A C) {f pl : Int} {Q : Int → MM → Prop} (hq : ∀ C', KF C0 f pl C' → Q 0 C') : w_X7_fail Q f pl C := by
  unfold w_X7_fail
  intro M1 e1 M2 e2
  refine hq M2 ⟨⟨fun q a b => ?_, fun i hi => ?_, fun i hi => by rw [e2, ux_i _ _ _ (by omega), e1, ux_i _ _ _ (by omega)]; exact h.1.2.2 i hi⟩, by rw [e2, ux_i _ _ _ (by decide), e1, ux_s], by rw [e2, ux_s]⟩
  · rw [e2, ux_g _ _ _ (by omega), e1, ux_g _ _ _ (by omega)]; exact h.1.1 q a b
  · rw [e2, ux_g _ _ _ (by omega), e1, ux_g _ _ _ (by omega)]; exact h.1.2.1 i hi
theorem k_refuse {C0 A C : MM} {k : Nat} (h : KC C0 k A C) {Q : Int → MM → Prop} (hq : ∀ C', KF C0 (if C0 4 k = 1 then 2 else 1) (C0 5 k) C' → Q 0 C') : w_X7_refuse Q C := by
  have w := h.2.1
  unfold w_X7_refuse w_X7_refuse_b17
  intro v1 e1 _
  rw [w.1] at e1
  have go : ∀ s0 M1, M1 = ux_ C 261 19 s0 → s0 = (if C0 4 k = 1 then 2 else 1) → ∀ v2, v2 = M1 1 10 → ri_ v2 → ∀ M3, M3 = ux_ M1 261 20 v2 → Q 0 M3 := fun s0 M1 d1 es v2 d2 _ M3 d3 => by
    rw [d1, ux_c _ _ _ _ (by decide), w.2.1] at d2
    refine hq M3 ⟨⟨fun q a b => ?_, fun i hi => ?_, fun i hi => by rw [d3, ux_i _ _ _ (by omega), d1, ux_i _ _ _ (by omega)]; exact h.1.2.2 i hi⟩, by rw [d3, ux_i _ _ _ (by decide), d1, ux_s, es], by rw [d3, ux_s, d2]⟩
    · rw [d3, ux_g _ _ _ (by omega), d1, ux_g _ _ _ (by omega)]; exact h.1.1 q a b
    · rw [d3, ux_g _ _ _ (by omega), d1, ux_g _ _ _ (by omega)]; exact h.1.2.1 i hi
  refine ⟨fun z M1 d1 => go 1 M1 d1 (by rw [if_neg (by omega)]), fun z M1 d1 => go 2 M1 d1 (by rw [if_pos (by omega)])⟩
theorem k_plain {C0 A C : MM} {k : Nat} (h : KC C0 k A C) (hA : OKA C0 A) {Q : Int → MM → Prop} (h1 : PLN C0 k → Q 1 C) (h0 : ¬ PLN C0 k → Q 0 C) : w_X7_isPlainName Q C := by
  obtain ⟨-, ⟨w1, w2, w3, -⟩, -, h4, -⟩ := h
  have a1 := hA.2.2.2.2.2.2.2.2.1
  have a2 := hA.2.2.2.2.2.2.2.2.2.1
  unfold w_X7_isPlainName
  intro v1 e1 _
  rw [w1] at e1
  refine ⟨fun z => h0 fun q => z (by rw [e1]; exact q.1), fun z v3 e3 _ v4 e4 _ => ?_⟩
  rw [w3] at e3
  rw [h4 1 (by decide) (by decide), a1] at e4
  refine ⟨fun y => h0 fun q => q.2.1 (by rw [← e3, ← e4]; exact y), fun y v6 e6 _ v7 e7 _ => ?_⟩
  rw [w3] at e6
  rw [h4 2 (by decide) (by decide), a2] at e7
  exact ⟨fun x => h0 fun q => q.2.2 (by rw [← e6, ← e7]; exact x), fun x => h1 ⟨by rw [← e1]; exact z, by rw [← e3, ← e4]; exact y, by rw [← e6, ← e7]; exact x⟩⟩
