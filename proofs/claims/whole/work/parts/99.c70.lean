/-! rules are read: one rule, on both sides -/
theorem q_held {C0 R0 A R : MM} {E : Nat → Int} {k : Nat} {r n v : Int} (h : KRq C0 R0 E k A R) (r0 : 0 ≤ r) (r1 : r < 12) (n0 : 0 ≤ n) (n4 : n ≤ 4) (v0 : 0 ≤ v) (h87 : R 87 r = n) (hat : ∀ m, 0 ≤ m → m < n → ATM A R (4 * r + m)) {Q : Int → MM → Prop} (h1 : hldB A r n v → Q 1 R) (h0 : ¬ hldB A r n v → Q 0 R) : w_X12_isHeld Q r v R := by
  have one : ∀ m, 0 ≤ m → m < n → (hld A (4 * r + m) v ↔ ¬ 2 < R 88 (4 * r + m) ∧ (R 90 (4 * r + m) = v ∨ R 91 (4 * r + m) = v)) := fun m m0 m1 => by
    obtain ⟨hk, e90, -, -, -, -⟩ := hat m m0 m1
    unfold hld
    rcases hk with ⟨k1, k2, k3, k4, k5, k6⟩ | ⟨k1, k2, k3⟩ | ⟨k1, k2, k3, k4, k5⟩ | ⟨k1, k2, k3⟩ | ⟨k1, k2, k3⟩
    · rcases k6 with ⟨x, y, -⟩ | ⟨x, -⟩ <;> omega
    · omega
    · omega
    · omega
    · omega
  unfold w_X12_isHeld w_X12_isHeld_b5
  refine loop5 _ (fun (x1 x2 x3 m : Int) M => r = x1 ∧ v = x2 ∧ R = M ∧ 0 ≤ m ∧ m ≤ n ∧ (x3 = 1 ∧ hldB A r m v ∨ x3 = 0 ∧ ¬ hldB A r m v)) (fun _ _ _ (m : Int) _ => (n - m).toNat) ?_ _ _ _ _ _ ⟨rfl, rfl, rfl, by omega, n0, Or.inr ⟨rfl, fun ⟨m, a, b, _⟩ => by omega⟩⟩
  rintro _ _ x3 m _ f ⟨rfl, rfl, rfl, m0, m1, hx⟩ ih
  have nx : ∀ x', (x' = 1 ∧ hldB A r (m + 1) v ∨ x' = 0 ∧ ¬ hldB A r (m + 1) v) → m < n → w_X12_isHeld_b70 Q f r v m x' R := fun x' hx' hm => by
    unfold w_X12_isHeld_b70
    exact ⟨by unfold ri_; omega, ih _ _ _ _ _ ⟨rfl, rfl, rfl, by omega, by omega, hx'⟩ (by omega)⟩
  have st : hldB A r (m + 1) v ↔ hldB A r m v ∨ hld A (4 * r + m) v := by
    constructor
    · rintro ⟨j, a, b, c⟩
      by_cases w : j = m
      · rw [w] at c; exact Or.inr c
      · exact Or.inl ⟨j, a, by omega, c⟩
    · rintro (⟨j, a, b, c⟩ | c)
      · exact ⟨j, a, by omega, c⟩
      · exact ⟨m, m0, by omega, c⟩
  unfold wb_X12_isHeld_b5
  refine ⟨r0, r1, fun v1 e1 _ => ⟨fun z => ?_, fun z => ?_⟩⟩
  · have em : m = n := by omega
    rw [em] at hx
    rcases hx with ⟨x, y⟩ | ⟨x, y⟩
    · exact ⟨Or.inr x, by rw [x]; exact h1 y⟩
    · exact ⟨Or.inl x, by rw [x]; exact h0 y⟩
  have mn : m < n := by omega
  have o := one m m0 mn
  have yes : hldB A r (m + 1) v → w_X12_isHeld_b65 Q f r v m R := fun w => by unfold w_X12_isHeld_b65; exact nx 1 (Or.inl ⟨rfl, w⟩) mn
  have no : ¬ hldB A r (m + 1) v → w_X12_isHeld_b69 Q f r v m R := fun w => by unfold w_X12_isHeld_b69; exact nx 0 (Or.inr ⟨rfl, w⟩) mn
  refine ⟨fun y => ?_, fun y => ⟨by unfold ri_; omega, by unfold ri_; omega, by omega, by omega, fun v6 e6 _ => ⟨fun w => ?_, fun w => ⟨by unfold ri_; omega, by unfold ri_; omega, by omega, by omega, fun v10 e10 _ => ⟨fun u => ?_, fun u => ⟨by unfold ri_; omega, by unfold ri_; omega, by omega, by omega, fun v14 e14 _ => ⟨fun t => ?_, fun t => ?_⟩⟩⟩⟩⟩⟩⟩
  · rcases hx with ⟨x, q⟩ | ⟨x, q⟩
    · exact yes (st.mpr (Or.inl q))
    · exact absurd x y
  all_goals
    have nm : ¬ hldB A r m v := by
      rcases hx with ⟨x, q⟩ | ⟨x, q⟩
      · omega
      · exact q
  · exact no fun q => (st.mp q).elim nm (fun c => (o.mp c).1 (by rw [← e6]; exact w))
  · exact yes (st.mpr (Or.inr (o.mpr ⟨by rw [← e6]; exact w, Or.inl (by rw [← e10]; exact u)⟩)))
  · exact no fun q => (st.mp q).elim nm (fun c => (o.mp c).2.elim (fun c => u (by rw [e10]; exact c)) (fun c => t (by rw [e14]; exact c)))
  · exact yes (st.mpr (Or.inr (o.mpr ⟨by rw [← e6]; exact w, Or.inr (by rw [← e14]; exact t)⟩)))
def RLq (A R : MM) (r : Int) : Prop := R 84 r = A 262 r ∧ 0 ≤ A 262 r ∧ A 262 r < A 261 16 ∧ R 85 r = A 263 r ∧ (R 86 r = -1 ∧ A 264 r = A 263 r ∧ A 273 (A 262 r) = 1 ∨ R 86 r = A 264 r ∧ A 273 (A 262 r) = 2) ∧ R 87 r = A 266 r ∧ 1 ≤ A 266 r ∧ A 266 r ≤ 4 ∧ 0 ≤ A 263 r ∧ A 263 r < A 265 r ∧ 0 ≤ A 264 r ∧ A 264 r < A 265 r ∧ A 265 r ≤ 3 ∧ hldB A r (A 266 r) (A 263 r) ∧ hldB A r (A 266 r) (A 264 r) ∧ ∀ m, 0 ≤ m → m < A 266 r → AtK A R (4 * r + m) ∧ R 90 (4 * r + m) = A 268 (4 * r + m) ∧ 0 ≤ A 268 (4 * r + m) ∧ A 268 (4 * r + m) < A 265 r ∧ 0 ≤ A 269 (4 * r + m) ∧ A 269 (4 * r + m) < A 265 r
def RLA (A : MM) (r : Int) : Prop := 0 ≤ A 262 r ∧ A 262 r < A 261 16 ∧ 1 ≤ A 266 r ∧ A 266 r ≤ 4 ∧ 0 ≤ A 263 r ∧ A 263 r < A 265 r ∧ 0 ≤ A 264 r ∧ A 264 r < A 265 r ∧ A 265 r ≤ 3 ∧ ∀ m, 0 ≤ m → m < A 266 r → 0 ≤ A 268 (4 * r + m) ∧ A 268 (4 * r + m) < A 265 r ∧ 0 ≤ A 269 (4 * r + m) ∧ A 269 (4 * r + m) < A 265 r ∧ (A 267 (4 * r + m) = 9 ∧ A 269 (4 * r + m) = A 268 (4 * r + m) ∨ 0 ≤ A 267 (4 * r + m) ∧ A 267 (4 * r + m) < 9)
def AGr (A A' : MM) (r : Int) : Prop := (∀ q i, 262 ≤ q → q ≤ 266 → i ≠ r → A' q i = A q i) ∧ (∀ q i, 267 ≤ q → q ≤ 270 → i < 4 * r ∨ 4 * r + 4 ≤ i → A' q i = A q i) ∧ A' 261 3 = r + 1 ∧ A 261 16 ≤ A' 261 16 ∧ ∀ i, 0 ≤ i → i < A 261 16 → A 273 i ≠ 0 → A' 273 i = A 273 i
def FRu (R R' : MM) (r : Int) : Prop := (∀ q i, q = 84 ∨ q = 85 ∨ q = 86 ∨ q = 87 ∨ q = 92 → i ≠ r → R' q i = R q i) ∧ ∀ q i, q = 82 ∨ 88 ≤ q ∧ q ≤ 91 → i < 4 * r ∨ 4 * r + 4 ≤ i → R' q i = R q i
theorem RLq_m {A A' R R' : MM} {r r' : Int} (h : RLq A R r) (r0 : 0 ≤ r) (hr : r < r') (a : AGr A A' r') (f : FRu R R' r') : RLq A' R' r := by
  obtain ⟨h1, h2, h3, h4, h5, h6, h7, h8, h9, h10, h11, h12, h13, h14, h15, h16⟩ := h
  obtain ⟨a1, a2, a3, a4, a5⟩ := a
  obtain ⟨f1, f2⟩ := f
  have e : ∀ q, 262 ≤ q → q ≤ 266 → A' q r = A q r := fun q x y => a1 q r x y (by omega)
  have g : ∀ q, q = 84 ∨ q = 85 ∨ q = 86 ∨ q = 87 ∨ q = 92 → R' q r = R q r := fun q x => f1 q r x (by omega)
  have ea : ∀ q m, 267 ≤ q → q ≤ 270 → 0 ≤ m → m < A 266 r → A' q (4 * r + m) = A q (4 * r + m) := fun q m x y m0 m1 => a2 q _ x y (by omega)
  have hh : ∀ v, hldB A r (A 266 r) v → hldB A' r (A 266 r) v := fun v ⟨m, m0, m1, m2⟩ => ⟨m, m0, m1, by
    unfold hld at m2 ⊢
    rw [ea 267 m (by omega) (by omega) m0 m1, ea 268 m (by omega) (by omega) m0 m1, ea 269 m (by omega) (by omega) m0 m1]; exact m2⟩
  unfold RLq
  rw [e 262 (by omega) (by omega), e 263 (by omega) (by omega), e 264 (by omega) (by omega), e 265 (by omega) (by omega), e 266 (by omega) (by omega), g 84 (by omega), g 85 (by omega), g 86 (by omega), g 87 (by omega)]
  refine ⟨h1, h2, by omega, h4, ?_, h6, h7, h8, h9, h10, h11, h12, h13, hh _ h14, hh _ h15, fun m m0 m1 => ?_⟩
  · rcases h5 with ⟨x, y, z⟩ | ⟨x, z⟩
    · exact Or.inl ⟨x, y, by rw [a5 _ h2 h3 (by omega)]; exact z⟩
    · exact Or.inr ⟨x, by rw [a5 _ h2 h3 (by omega)]; exact z⟩
  · obtain ⟨hk, t1, t2, t3, t4, t5⟩ := h16 m m0 m1
    have gr : ∀ q, q = 82 ∨ 88 ≤ q ∧ q ≤ 91 → R' q (4 * r + m) = R q (4 * r + m) := fun q x => f2 q _ x (by omega)
    unfold AtK at hk ⊢
    rw [ea 267 m (by omega) (by omega) m0 m1, ea 268 m (by omega) (by omega) m0 m1, ea 269 m (by omega) (by omega) m0 m1, ea 270 m (by omega) (by omega) m0 m1, gr 82 (by omega), gr 88 (by omega), gr 89 (by omega), gr 90 (by omega), gr 91 (by omega)]
    refine ⟨?_, t1, t2, t3, t4, t5⟩
    rcases hk with ⟨k1, k2, k3, k4, k5, k6⟩ | hk
    · refine Or.inl ⟨k1, by omega, k3, k4, k5, ?_⟩
      rcases k6 with ⟨x, y, z⟩ | ⟨x, z⟩
      · exact Or.inl ⟨x, y, by rw [a5 _ k1 k2 (by omega)]; exact z⟩
      · exact Or.inr ⟨x, by rw [a5 _ k1 k2 (by omega)]; exact z⟩
    · exact Or.inr hk
theorem RLA_m {A A' : MM} {r r' : Int} (h : RLA A r) (r0 : 0 ≤ r) (hr : r < r') (a : AGr A A' r') : RLA A' r := by
  obtain ⟨h1, h2, h3, h4, h5, h6, h7, h8, h9, h10⟩ := h
  obtain ⟨a1, a2, a3, a4, a5⟩ := a
  have e : ∀ q, 262 ≤ q → q ≤ 266 → A' q r = A q r := fun q x y => a1 q r x y (by omega)
  unfold RLA
  rw [e 262 (by omega) (by omega), e 263 (by omega) (by omega), e 264 (by omega) (by omega), e 265 (by omega) (by omega), e 266 (by omega) (by omega)]
  refine ⟨h1, by omega, h3, h4, h5, h6, h7, h8, h9, fun m m0 m1 => ?_⟩
  rw [a2 267 _ (by omega) (by omega) (by omega), a2 268 _ (by omega) (by omega) (by omega), a2 269 _ (by omega) (by omega) (by omega)]
  exact h10 m m0 m1
