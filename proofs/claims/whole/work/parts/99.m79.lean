/-! the law's cases: what they stand on -/
def LwE (l : Launch) (D : va_G) (cy : Nat → ClassId) (ad : Nat → Nat) (xs : Nat → Int) (L : Nat) (J : Nat → Nat → Nat → List (Nat × Value) → List Value → MM → Prop) : Prop :=
  (∀ c0 s0, c0 ≤ 601000 → s0 ≤ 7293000 → jOk l D vwCl (tyC cy) cy ad ftJ ksK (XtB ad xs L) Om RL cL_law 8 5 room_1 (fun _ _ => True) (J c0 s0)) ∧
  (∀ c0 s0 mc ms, c0 + mc ≤ 601000 → s0 + ms ≤ 7293000 → jTs l D vwCl (tyC cy) cy ad ftJ ksK (XtB ad xs L) Om RL cL_law room_1 mc ms (J c0 s0) (J (c0 + mc) (s0 + ms))) ∧
  ∀ (c0 s0 c1 s1 pc : Nat) (lv : List (Nat × Value)) (st : List Value) (M : MM), c0 ≤ c1 → s0 ≤ s1 → J c1 s1 pc lv st M → J c0 s0 pc lv st M
