/-! names, in the class and in the reference -/
def isNm (s : Int → Int) (n : Int) : Prop := 0 < n ∧ n ≤ 10 ∧ isA (s 0) ∧ ∀ i, 0 ≤ i → i < n → isY (s i)
/-- the class's code of the tape's name, or 0 -/
def nmC (C : MM) (v : Int) : Prop := (isNm (C 2) (C 1 1) ∧ (∀ j, 0 ≤ j → j < 29 → C 7 j ≠ fr f64 (C 2) 0 0 (C 1 1).toNat) ∧ v = fr f64 (C 2) 0 0 (C 1 1).toNat) ∨ (¬ (isNm (C 2) (C 1 1) ∧ (∀ j, 0 ≤ j → j < 29 → C 7 j ≠ fr f64 (C 2) 0 0 (C 1 1).toNat)) ∧ v = 0)
theorem notB_A {b : Int} (h : isA b) : ¬ isB b := by unfold isA at h; unfold isB; omega
theorem notD_A {b : Int} (h : isA b) : ¬ isD b := by unfold isA at h; unfold isD; omega
theorem sg0_2 {b : Int} : ¬ sg0 b 2 := by
  intro h
  rcases h with ⟨h, -⟩ | ⟨j, j0, j1, j2, -⟩ <;> omega
set_option maxHeartbeats 400000 in
theorem p_wholeName {Q : Int → MM → Prop} {C : MM} (hT : okT C) (h : ∀ C' v, (∀ k i, ¬ (k = 1 ∧ (i = 4 ∨ i = 9 ∨ i = 10 ∨ i = 11)) → C' k i = C k i) → nmC C v → Q v C') : w_X9_wholeName Q C := by
  obtain ⟨t1, t2, t3⟩ := id hT
  unfold w_X9_wholeName
  intro v1 e1 g1
  refine ⟨fun z M3 e3 => ?_, fun z => h C 0 (fun _ _ _ => rfl) (Or.inr ⟨fun q => by have := q.1.2.1; omega, rfl⟩)⟩
  have e3' : M3 = sc C 0 (C 1 9) (C 1 10) (C 1 11) := by
    rw [e3]
    have := sc_u4 C (C 1 4) (C 1 9) (C 1 10) (C 1 11) 0
    rw [← sc_self] at this
    exact this
  rw [e3']
  refine p_scanWord hT (by omega) (by omega) (fun e W q D hs => ?_)
  have fr9 : ∀ k i, ¬ (k = 1 ∧ (i = 4 ∨ i = 9 ∨ i = 10 ∨ i = 11)) → sc C e W q D k i = C k i := by
    intro k i hk
    unfold sc
    rw [if_neg (by omega), if_neg (by omega), if_neg (by omega), if_neg (by omega)]
  -- a name is read whole
  have hnm : isNm (C 2) (C 1 1) → (∀ j, 0 ≤ j → j < 29 → C 7 j ≠ fr f64 (C 2) 0 0 (C 1 1).toNat) → W = 2 ∧ q = 0 ∧ e = C 1 1 ∧ D = fr f64 (C 2) 0 0 (C 1 1).toNat := by
    intro hn hk
    obtain ⟨n1, n2, n3, n4⟩ := hn
    obtain ⟨⟨b1, b2, b3, b4⟩, hs⟩ := hs
    have q0 : q = 0 := by
      by_cases z0 : q = 0
      · exact z0
      · exact absurd (b3 0 (by omega) (by omega)) (notB_A n3)
    subst q0
    rcases hs with s | s | s | s
    · omega
    · exact absurd s.2.1 (notD_A n3)
    · obtain ⟨-, -, ⟨a1, a2, a3, a4⟩, sw, sd⟩ := s
      have ee : e = C 1 1 := by
        by_cases z1 : e < C 1 1
        · exact absurd (n4 e (by omega) z1) (a4 z1)
        · omega
      subst ee
      rw [show (C 1 1 - 0).toNat = (C 1 1).toNat from by rw [Int.sub_zero]] at sw sd
      rcases sw with sw | ⟨-, sw⟩
      · omega
      rcases sw with sw | ⟨k, k0, k1, -, k3, -⟩
      · exact ⟨sw.1, rfl, rfl, sd⟩
      · exact absurd k3 (hk k k0 k1)
    · exact absurd (Or.inl n3) s.2.1
  have hno : W = 2 → q = 0 → e = C 1 1 → isNm (C 2) (C 1 1) ∧ (∀ j, 0 ≤ j → j < 29 → C 7 j ≠ fr f64 (C 2) 0 0 (C 1 1).toNat) := by
    intro hw hq he
    obtain ⟨-, hs⟩ := hs
    subst hw hq he
    rcases hs with s | s | s | s
    · omega
    · have := s.2.2.2.1
      by_cases z9 : 18 < C 1 1 - 0
      · rw [if_pos z9] at this; omega
      · rw [if_neg z9] at this; omega
    · obtain ⟨s1, s2, ⟨a1, a2, a3, a4⟩, sw, sd⟩ := s
      rw [show (C 1 1 - 0).toNat = (C 1 1).toNat from by rw [Int.sub_zero]] at sw
      rcases sw with sw | ⟨sl, sw⟩
      · omega
      rcases sw with sw | ⟨k, k0, k1, k2, -⟩
      · exact ⟨⟨s1, by omega, s2, fun i i0 i1 => a3 i i0 i1⟩, sw.2⟩
      · omega
    · rcases s.2.2.1 with ⟨-, -, sw, -⟩ | ⟨-, -, sw⟩
      · omega
      · exact absurd sw sg0_2
  have hcode : W = 2 → q = 0 → e = C 1 1 → D = fr f64 (C 2) 0 0 (C 1 1).toNat := fun a b c => (hnm (hno a b c).1 (hno a b c).2).2.2.2
  intro v6 e6 g6
  rw [sc_w] at e6
  subst e6
  refine ⟨fun z6 => h _ 0 fr9 (Or.inr ⟨fun hq => z6 (hnm hq.1 hq.2).1, rfl⟩), fun z6 v8 e8 g8 => ?_⟩
  rw [sc_p] at e8
  subst e8
  refine ⟨fun z8 => h _ 0 fr9 (Or.inr ⟨fun hq => z8 (hnm hq.1 hq.2).2.1, rfl⟩), fun z8 v10 e10 g10 v11 e11 g11 => ?_⟩
  rw [sc_at] at e10
  rw [sc_1] at e11
  subst e10 e11
  refine ⟨fun z10 => h _ 0 fr9 (Or.inr ⟨fun hq => z10 (hnm hq.1 hq.2).2.2.1, rfl⟩), fun z10 v13 e13 g13 => ?_⟩
  rw [sc_d] at e13
  subst e13
  exact h _ _ fr9 (Or.inl ⟨(hno z6 z8 z10).1, (hno z6 z8 z10).2, hcode z6 z8 z10⟩)
/-! the reference -/
def cd (b : Int) : Int := if 48 ≤ b ∧ b ≤ 57 then b - 47 else if 90 < b then b - 60 else b - 54
def f63 (d b : Int) : Int := w64 (w64 (63 * d) + cd b)
theorem p_R_dig {Q : Int → MM → Prop} {b : Int} {M : MM} (h1 : isD b → Q 1 M) (h0 : ¬ isD b → Q 0 M) : w_X12_isDigit Q b M := by
  unfold w_X12_isDigit
  exact ⟨fun z => h0 (fun q => by unfold isD at q; omega), fun z => ⟨fun z2 => h0 (fun q => by unfold isD at q; omega), fun z2 => h1 (by unfold isD; omega)⟩⟩
theorem p_R_let {Q : Int → MM → Prop} {b : Int} {M : MM} (h1 : isA b → Q 1 M) (h0 : ¬ isA b → Q 0 M) : w_X12_isLetter Q b M := by
  unfold w_X12_isLetter w_X12_isLetter_b12
  refine ⟨fun z => ⟨fun z2 => h0 (fun q => by unfold isA at q; omega), fun z2 => ⟨fun z3 => h0 (fun q => by unfold isA at q; omega), fun z3 => h1 (by unfold isA; omega)⟩⟩, fun z => ⟨fun z2 => h1 (by unfold isA; omega), fun z2 => ⟨fun z3 => h0 (fun q => by unfold isA at q; omega), fun z3 => ⟨fun z4 => h0 (fun q => by unfold isA at q; omega), fun z4 => h1 (by unfold isA; omega)⟩⟩⟩⟩
theorem p_R_code {Q : Int → MM → Prop} {b : Int} {M : MM} (hb : -1000 ≤ b ∧ b ≤ 1000) (h : Q (cd b) M) : w_X12_code Q b M := by
  unfold w_X12_code
  refine p_R_dig (fun z _ => ⟨fun q => by omega, fun _ => ⟨by unfold ri_; omega, by unfold ri_; omega, ?_⟩⟩) (fun z _ => ⟨fun _ => ⟨fun z2 => ⟨by unfold ri_; omega, by unfold ri_; omega, ?_⟩, fun z2 => ⟨by unfold ri_; omega, by unfold ri_; omega, ?_⟩⟩, fun q => by omega⟩)
  · unfold isD at z
    rw [show b - 48 + 1 = cd b from by unfold cd; rw [if_pos z]; omega]; exact h
  · unfold isD at z
    rw [show b - 97 + 37 = cd b from by unfold cd; rw [if_neg z, if_pos z2]; omega]; exact h
  · unfold isD at z
    rw [show b - 65 + 11 = cd b from by unfold cd; rw [if_neg z, if_neg z2]; omega]; exact h
theorem p_R_keyOf {Q : Int → MM → Prop} {x : Int} {M : MM} (h1 : ∀ k, 0 ≤ k → k < 29 → M 3 k = x → (∀ j, k < j → j < 29 → M 3 j ≠ x) → Q k M) (h0 : (∀ j, 0 ≤ j → j < 29 → M 3 j ≠ x) → Q (-1) M) : w_X12_keyOf Q x M := by
  have H : ∀ (m : Nat) (f k : Int), 0 ≤ k → k ≤ 29 → 29 - k < m → ((f = -1 ∧ ∀ j, 0 ≤ j → j < k → M 3 j ≠ x) ∨ (0 ≤ f ∧ f < k ∧ M 3 f = x ∧ ∀ j, f < j → j < k → M 3 j ≠ x)) → jit (fun _ _ _ _ => False) (wb_X12_keyOf_b5 Q) m x f k M := by
    intro m
    induction m with
    | zero => intro f k h0 h4 hn hf; omega
    | succ m ih =>
      intro f k k0 k1 hm hf
      show wb_X12_keyOf_b5 Q (jit (fun _ _ _ _ => False) (wb_X12_keyOf_b5 Q) m) x f k M
      unfold wb_X12_keyOf_b5 w_X12_keyOf_b30
      refine ⟨fun z => ?_, fun z => ⟨by omega, by omega, fun v ev gv => ⟨fun z2 => ⟨by unfold ri_; omega, ih f (k + 1) (by omega) (by omega) (by omega) ?_⟩, fun z2 => ⟨by unfold ri_; omega, ih k (k + 1) (by omega) (by omega) (by omega) (Or.inr ⟨k0, by omega, by rw [← ev]; exact z2, fun j j0 j1 => by omega⟩)⟩⟩⟩⟩
      · rcases hf with ⟨rfl, hf⟩ | ⟨f0, f1, f2, f3⟩
        · exact h0 (fun j j0 j1 => hf j j0 (by omega))
        · exact h1 f f0 (by omega) f2 (fun j j0 j1 => f3 j j0 (by omega))
      · rcases hf with ⟨rfl, hf⟩ | ⟨f0, f1, f2, f3⟩
        · refine Or.inl ⟨rfl, fun j j0 j1 => ?_⟩
          by_cases e : j = k
          · rw [e, ← ev]; exact z2
          · exact hf j j0 (by omega)
        · refine Or.inr ⟨f0, by omega, f2, fun j j0 j1 => ?_⟩
          by_cases e : j = k
          · rw [e, ← ev]; exact z2
          · exact f3 j j0 (by omega)
  exact ⟨30, H 30 (-1) 0 (by omega) (by omega) (by omega) (Or.inl ⟨rfl, fun j j0 j1 => by omega⟩)⟩
