/-! rules are read: variables and relations, on both sides -/
def FVr (q c : Nat) (i0 : Int) (R R' : MM) : Prop := (∀ k, k ≠ 0 → k ≠ q → k ≠ c → R' k = R k) ∧ ∀ i, i ∉ ([78, 79, 80, 85] : List Int) → i ≠ i0 → R' 0 i = R 0 i
/-- a name among the first n of a row: where it is, or that it isn't -/
theorem fnd (row : Int → Int) (x : Int) : ∀ n : Nat, (∃ j, 0 ≤ j ∧ j < (n : Int) ∧ row j = x ∧ ∀ i, 0 ≤ i → i < j → row i ≠ x) ∨ ∀ j, 0 ≤ j → j < (n : Int) → row j ≠ x
  | 0 => Or.inr fun j a b => by omega
  | n + 1 => by
    rcases fnd row x n with ⟨j, a, b, c, d⟩ | h
    · exact Or.inl ⟨j, a, by omega, c, d⟩
    · by_cases y : row n = x
      · exact Or.inl ⟨n, by omega, by omega, y, fun i a b => h i a (by omega)⟩
      · refine Or.inr fun j a b => ?_
        by_cases z : j = n
        · rw [z]; exact y
        · exact h j a (by omega)
def adV (A : MM) (nm : Int) : MM := ux_ (ux_ A 271 (A 261 14) nm) 261 14 (A 261 14 + 1)
def adR (A : MM) (nm : Int) : MM := ux_ (ux_ (ux_ A 272 (A 261 16) nm) 273 (A 261 16) 0) 261 16 (A 261 16 + 1)
theorem KC_u {C0 A C : MM} {k : Nat} (h : KC C0 k A C) {q : Nat} (q0 : 262 ≤ q) (q1 : q ≤ 273) (i v : Int) : KC C0 k (ux_ A q i v) (ux_ C q i v) := by
  obtain ⟨hF, hW, c3, c4, c5, c6⟩ := h
  refine ⟨⟨fun p a b => by rw [ux_g _ _ _ (by omega)]; exact hF.1 p a b, fun j hj => by rw [ux_g _ _ _ (by omega)]; exact hF.2.1 j hj, fun j hj => by rw [ux_g _ _ _ (by omega)]; exact hF.2.2 j hj⟩, ?_, fun p a b => ?_, fun j a b => by rw [ux_g _ _ _ (by omega), ux_g _ _ _ (by omega)]; exact c4 j a b, by rw [ux_g _ _ _ (by omega)]; exact c5, by rw [ux_g _ _ _ (by omega)]; exact c6⟩
  · unfold Wd; rw [ux_g _ _ _ (by omega)]; exact hW
  · funext j; unfold ux_; rw [c3 p a b]
theorem KC_i {C0 A C : MM} {k : Nat} (h : KC C0 k A C) {i : Int} (i0 : i ≠ 19 ∧ i ≠ 1 ∧ i ≠ 2) (i1 : i ≠ 20) (v : Int) : KC C0 k (ux_ A 261 i v) (ux_ C 261 i v) := by
  obtain ⟨hF, hW, c3, c4, c5, c6⟩ := h
  refine ⟨⟨fun p a b => by rw [ux_g _ _ _ (by omega)]; exact hF.1 p a b, fun j hj => by rw [ux_g _ _ _ (by omega)]; exact hF.2.1 j hj, fun j hj => by rw [ux_i _ _ _ (by omega)]; exact hF.2.2 j hj⟩, ?_, fun p a b => by rw [ux_g _ _ _ (by omega), ux_g _ _ _ (by omega)]; exact c3 p a b, fun j a b => ?_, by rw [ux_i _ _ _ (Ne.symm i0.1)]; exact c5, by rw [ux_i _ _ _ (Ne.symm i1)]; exact c6⟩
  · unfold Wd; rw [ux_g _ _ _ (by omega)]; exact hW
  · unfold ux_; rw [c4 j a b]
theorem k_var {C0 A C : MM} {kc : Nat} {nm : Int} (h : KC C0 kc A C) (hA : OKA C0 A) {Q : Int → MM → Prop} (h1 : ∀ j, 0 ≤ j → j < A 261 14 → A 271 j = nm → (∀ i, 0 ≤ i → i < j → A 271 i ≠ nm) → Q j C) (h2 : (∀ j, 0 ≤ j → j < A 261 14 → A 271 j ≠ nm) → A 261 14 < 3 → ∀ C', KC C0 kc (adV A nm) C' → Q (A 261 14) C') (h3 : (∀ j, 0 ≤ j → j < A 261 14 → A 271 j ≠ nm) → A 261 14 = 3 → Q (-1) C) : w_X7_variableOf Q nm C := by
  obtain ⟨hF, hW, c3, c4, c5, c6⟩ := id h
  have n0 := hA.2.2.2.2.1
  have n3 := hA.2.2.2.2.2.1
  have e14 := c4 14 (by decide) (by decide)
  have e271 := c3 271 (by omega) (by omega)
  unfold w_X7_variableOf w_X7_variableOf_b2
  refine loop3 _ (fun (x1 j : Int) M => nm = x1 ∧ C = M ∧ 0 ≤ j ∧ j ≤ A 261 14 ∧ ∀ i, 0 ≤ i → i < j → A 271 i ≠ nm) (fun _ (j : Int) _ => (A 261 14 - j).toNat) ?_ _ _ _ ⟨rfl, rfl, by omega, n0, fun i a b => by omega⟩
  rintro _ j _ f ⟨rfl, rfl, j0, j1, hj⟩ ih
  unfold wb_X7_variableOf_b2
  intro v1 e1 _
  rw [e14] at e1
  refine ⟨fun z v3 e3 _ => ?_, fun z => ⟨j0, by omega, fun v12 e12 _ => ⟨fun y => ⟨by unfold ri_; omega, ih _ _ _ ⟨rfl, rfl, by omega, by omega, fun i a b => ?_⟩ (by omega)⟩, fun y => h1 j j0 (by omega) (by rw [← e271, ← e12]; exact y) hj⟩⟩⟩
  · rw [e14] at e3
    have hno : ∀ i, 0 ≤ i → i < A 261 14 → A 271 i ≠ nm := fun i a b => hj i a (by omega)
    refine ⟨fun y v5 e5 _ => ?_, fun y => h3 hno (by omega)⟩
    rw [e14] at e5
    rw [e5]
    refine ⟨by omega, by omega, fun M6 e6 v7 e7 _ => ?_⟩
    rw [e6, ux_c _ _ _ _ (by decide), e14] at e7
    rw [e7]
    refine ⟨by unfold ri_; omega, fun M9 e9 v10 e10 _ => ⟨?_, ?_⟩⟩
    · rw [e9, ux_s] at e10; unfold ri_; omega
    · rw [e9, ux_s] at e10
      rw [e10, show A 261 14 + 1 - 1 = A 261 14 from by omega]
      exact h2 hno (by omega) M9 (by rw [e9, e6]; exact KC_i (KC_u h (by omega) (by omega) _ _) (by decide) (by decide) _)
  · by_cases w : i = j
    · rw [w, ← e271, ← e12]; exact y
    · exact hj i a (by omega)
theorem k_rel {C0 A C : MM} {kc : Nat} {nm : Int} (h : KC C0 kc A C) (hA : OKA C0 A) {Q : Int → MM → Prop} (h1 : ∀ j, 0 ≤ j → j < A 261 16 → A 272 j = nm → (∀ i, 0 ≤ i → i < j → A 272 i ≠ nm) → Q j C) (h2 : (∀ j, 0 ≤ j → j < A 261 16 → A 272 j ≠ nm) → A 261 16 < 6 → ∀ C', KC C0 kc (adR A nm) C' → Q (A 261 16) C') (h3 : (∀ j, 0 ≤ j → j < A 261 16 → A 272 j ≠ nm) → A 261 16 = 6 → Q (-1) C) : w_X7_relationOf Q nm C := by
  obtain ⟨hF, hW, c3, c4, c5, c6⟩ := id h
  have n0 := hA.1
  have n3 := hA.2.1
  have e14 := c4 16 (by decide) (by decide)
  have e271 := c3 272 (by omega) (by omega)
  unfold w_X7_relationOf w_X7_relationOf_b2
  refine loop3 _ (fun (x1 j : Int) M => nm = x1 ∧ C = M ∧ 0 ≤ j ∧ j ≤ A 261 16 ∧ ∀ i, 0 ≤ i → i < j → A 272 i ≠ nm) (fun _ (j : Int) _ => (A 261 16 - j).toNat) ?_ _ _ _ ⟨rfl, rfl, by omega, n0, fun i a b => by omega⟩
  rintro _ j _ f ⟨rfl, rfl, j0, j1, hj⟩ ih
  unfold wb_X7_relationOf_b2
  intro v1 e1 _
  rw [e14] at e1
  refine ⟨fun z v3 e3 _ => ?_, fun z => ⟨j0, by omega, fun v12 e12 _ => ⟨fun y => ⟨by unfold ri_; omega, ih _ _ _ ⟨rfl, rfl, by omega, by omega, fun i a b => ?_⟩ (by omega)⟩, fun y => h1 j j0 (by omega) (by rw [← e271, ← e12]; exact y) hj⟩⟩⟩
  · rw [e14] at e3
    have hno : ∀ i, 0 ≤ i → i < A 261 16 → A 272 i ≠ nm := fun i a b => hj i a (by omega)
    refine ⟨fun y v5 e5 _ => ?_, fun y => h3 hno (by omega)⟩
    rw [e14] at e5
    rw [e5]
    refine ⟨by omega, by omega, fun M6 e6 v7 e7 _ => ?_⟩
    rw [e6, ux_c _ _ _ _ (by decide), e14] at e7
    rw [e7]
    refine ⟨by omega, by omega, fun M8 e8 v9 e9' _ => ?_⟩
    rw [e8, ux_c _ _ _ _ (by decide), e6, ux_c _ _ _ _ (by decide), e14] at e9'
    rw [e9']
    refine ⟨by unfold ri_; omega, fun M9 e9 v10 e10 _ => ⟨?_, ?_⟩⟩
    · rw [e9, ux_s] at e10; unfold ri_; omega
    · rw [e9, ux_s] at e10
      rw [e10, show A 261 16 + 1 - 1 = A 261 16 from by omega]
      exact h2 hno (by omega) M9 (by rw [e9, e8, e6]; exact KC_i (KC_u (KC_u h (by omega) (by omega) _ _) (by omega) (by omega) _ _) (by decide) (by decide) _)
  · by_cases w : i = j
    · rw [w, ← e271, ← e12]; exact y
    · exact hj i a (by omega)
theorem OKA_V {C0 A : MM} {nm : Int} (h : OKA C0 A) (hn : ∀ j, 0 ≤ j → j < A 261 14 → A 271 j ≠ nm) (h3 : A 261 14 < 3) : OKA C0 (adV A nm) := by
  obtain ⟨a1, a2, a3, a4, a5, a6, a7, a8, a9, a10, a11, a12, a13⟩ := h
  have v : ∀ i, i ≠ 14 → adV A nm 261 i = A 261 i := fun i hi => by unfold adV; rw [ux_i _ _ _ hi, ux_c _ _ _ _ (by decide)]
  have v14 : adV A nm 261 14 = A 261 14 + 1 := by unfold adV; rw [ux_s]
  have g : ∀ q, q ≠ 261 → q ≠ 271 → adV A nm q = A q := fun q x y => by unfold adV; rw [ux_g _ _ _ x, ux_g _ _ _ y]
  have n : ∀ i, adV A nm 271 i = if i = A 261 14 then nm else A 271 i := fun i => by
    unfold adV
    rw [ux_c _ _ _ _ (by decide)]
    by_cases w : i = A 261 14
    · rw [if_pos w, w, ux_s]
    · rw [if_neg w, ux_i _ _ _ w]
  unfold OKA
  rw [v 16 (by decide), v 3 (by decide), v14, v 1 (by decide), v 2 (by decide), g 272 (by decide) (by decide), g 273 (by decide) (by decide)]
  refine ⟨a1, a2, a3, a4, by omega, by omega, fun i j i0 i1 j0 j1 e => ?_, a8, a9, a10, a11, a12, a13⟩
  rw [n, n] at e
  by_cases x : i = A 261 14
  · by_cases y : j = A 261 14
    · omega
    · rw [if_pos x, if_neg y] at e; exact absurd e.symm (hn j j0 (by omega))
  · by_cases y : j = A 261 14
    · rw [if_neg x, if_pos y] at e; exact absurd e (hn i i0 (by omega))
    · rw [if_neg x, if_neg y] at e; exact a7 i j i0 (by omega) j0 (by omega) e
theorem OKA_R {C0 A : MM} {nm : Int} (h : OKA C0 A) (hn : ∀ j, 0 ≤ j → j < A 261 16 → A 272 j ≠ nm) (h3 : A 261 16 < 6) : OKA C0 (adR A nm) := by
  obtain ⟨a1, a2, a3, a4, a5, a6, a7, a8, a9, a10, a11, a12, a13⟩ := h
  have v : ∀ i, i ≠ 16 → adR A nm 261 i = A 261 i := fun i hi => by unfold adR; rw [ux_i _ _ _ hi, ux_c _ _ _ _ (by decide), ux_c _ _ _ _ (by decide)]
  have v14 : adR A nm 261 16 = A 261 16 + 1 := by unfold adR; rw [ux_s]
  have g : adR A nm 271 = A 271 := by unfold adR; rw [ux_g _ _ _ (by decide), ux_g _ _ _ (by decide), ux_g _ _ _ (by decide)]
  have n : ∀ i, adR A nm 272 i = if i = A 261 16 then nm else A 272 i := fun i => by
    unfold adR
    rw [ux_c _ _ _ _ (by decide), ux_c _ _ _ _ (by decide)]
    by_cases w : i = A 261 16
    · rw [if_pos w, w, ux_s]
    · rw [if_neg w, ux_i _ _ _ w]
  have n3 : ∀ i, adR A nm 273 i = if i = A 261 16 then 0 else A 273 i := fun i => by
    unfold adR
    rw [ux_c _ _ _ _ (by decide)]
    by_cases w : i = A 261 16
    · rw [if_pos w, w, ux_s]
    · rw [if_neg w, ux_i _ _ _ w, ux_c _ _ _ _ (by decide)]
  unfold OKA
  rw [v 14 (by decide), v 3 (by decide), v14, v 1 (by decide), v 2 (by decide), g]
  refine ⟨by omega, by omega, a3, a4, a5, a6, a7, fun i j i0 i1 j0 j1 e => ?_, a9, a10, a11, a12, fun i i0 i1 => ?_⟩
  · rw [n, n] at e
    by_cases x : i = A 261 16
    · by_cases y : j = A 261 16
      · omega
      · rw [if_pos x, if_neg y] at e; exact absurd e.symm (hn j j0 (by omega))
    · by_cases y : j = A 261 16
      · rw [if_neg x, if_pos y] at e; exact absurd e (hn i i0 (by omega))
      · rw [if_neg x, if_neg y] at e; exact a8 i j i0 (by omega) j0 (by omega) e
  · rw [n3]
    by_cases x : i = A 261 16
    · rw [if_pos x]; exact Or.inl rfl
    · rw [if_neg x]; exact a13 i i0 (by omega)
