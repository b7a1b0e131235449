/-! the class reads words off the tape -/
def isB (b : Int) : Prop := b = 9 ∨ b = 10 ∨ b = 13 ∨ b = 32
def isD (b : Int) : Prop := 48 ≤ b ∧ b ≤ 57
def isA (b : Int) : Prop := (65 ≤ b ∧ b ≤ 90) ∨ (97 ≤ b ∧ b ≤ 122)
def isY (b : Int) : Prop := isA b ∨ isD b
/-- a letter's or digit's number in the class -/
def sy (b : Int) : Int := if 65 ≤ b ∧ b ≤ 90 then b - 64 else if 97 ≤ b ∧ b ≤ 122 then b - 70 else if 48 ≤ b ∧ b ≤ 57 then b + 5 else 0
theorem sy_bd (b : Int) : 0 ≤ sy b ∧ sy b ≤ 62 := by unfold sy; grind
theorem sy_pos {b : Int} : 0 < sy b ↔ isY b := by unfold sy isY isA isD; grind
theorem p_dig {Q : Int → MM → Prop} {b : Int} {M : MM} (h1 : isD b → Q 1 M) (h0 : ¬ isD b → Q 0 M) : w_X9_isDigit Q b M := by
  unfold w_X9_isDigit
  exact ⟨fun z => h0 (fun q => by unfold isD at q; omega), fun z => ⟨fun z2 => h0 (fun q => by unfold isD at q; omega), fun z2 => h1 (by unfold isD; omega)⟩⟩
theorem p_blank {Q : Int → MM → Prop} {b : Int} {M : MM} (h1 : isB b → Q 1 M) (h0 : ¬ isB b → Q 0 M) : w_X9_isBlank Q b M := by
  unfold w_X9_isBlank
  exact ⟨fun z => h1 (by unfold isB; omega), fun z => ⟨fun z => h1 (by unfold isB; omega), fun z => ⟨fun z => h1 (by unfold isB; omega), fun z => ⟨fun z => h0 (fun q => by unfold isB at q; omega), fun z => h1 (by unfold isB; omega)⟩⟩⟩⟩
theorem p_sym {Q : Int → MM → Prop} {b : Int} {M : MM} (hb : ri_ b) (h : Q (sy b) M) : w_X9_symbolOf Q b M := by
  have h39 : ¬ (65 ≤ b ∧ b ≤ 90) → ¬ (97 ≤ b ∧ b ≤ 122) → w_X9_symbolOf_b39 Q b M := by
    intro a1 a2
    unfold w_X9_symbolOf_b39
    refine p_dig (fun z _ => ⟨fun q => by omega, fun _ => ?_⟩) (fun z _ => ⟨fun _ => ?_, fun q => by omega⟩)
    · unfold isD at z
      refine ⟨by unfold ri_; omega, by unfold ri_; omega, ?_⟩
      rw [show b - 48 + 53 = sy b from by unfold sy; rw [if_neg a1, if_neg a2, if_pos (by omega)]; omega]; exact h
    · unfold isD at z
      rw [show sy b = 0 from by unfold sy; rw [if_neg a1, if_neg a2, if_neg (by omega)]] at h; exact h
  have h19 : ¬ (65 ≤ b ∧ b ≤ 90) → w_X9_symbolOf_b19 Q b M := by
    intro a1
    unfold w_X9_symbolOf_b19
    refine ⟨fun z => h39 a1 (by omega), fun z => ⟨fun z2 => h39 a1 (by omega), fun z2 => ⟨by unfold ri_; omega, by unfold ri_; omega, ?_⟩⟩⟩
    rw [show b - 97 + 27 = sy b from by unfold sy; rw [if_neg a1, if_pos (by omega)]; omega]; exact h
  unfold w_X9_symbolOf
  refine ⟨fun z => h19 (by omega), fun z => ⟨fun z2 => h19 (by omega), fun z2 => ⟨by unfold ri_; omega, by unfold ri_; omega, ?_⟩⟩⟩
  rw [show b - 65 + 1 = sy b from by unfold sy; rw [if_pos (by omega)]; omega]; exact h
/-- the tape's four working fields: at, word, place, code -/
def sc (M : MM) (a w p d : Int) : MM := fun k i => if k = 1 ∧ i = 4 then a else if k = 1 ∧ i = 9 then w else if k = 1 ∧ i = 10 then p else if k = 1 ∧ i = 11 then d else M k i
theorem sc_at (M : MM) (a w p d : Int) : sc M a w p d 1 4 = a := by simp [sc]
theorem sc_w (M : MM) (a w p d : Int) : sc M a w p d 1 9 = w := by simp [sc]
theorem sc_p (M : MM) (a w p d : Int) : sc M a w p d 1 10 = p := by simp [sc]
theorem sc_d (M : MM) (a w p d : Int) : sc M a w p d 1 11 = d := by simp [sc]
theorem sc_1 (M : MM) (a w p d : Int) : sc M a w p d 1 1 = M 1 1 := by simp [sc]
theorem sc_o (M : MM) (a w p d : Int) {k : Nat} (h : k ≠ 1) (i : Int) : sc M a w p d k i = M k i := by simp [sc, h]
theorem sc_self (M : MM) : M = sc M (M 1 4) (M 1 9) (M 1 10) (M 1 11) := by
  funext k i
  unfold sc
  by_cases a : k = 1 ∧ i = 4
  · rw [if_pos a, a.1, a.2]
  rw [if_neg a]
  by_cases a : k = 1 ∧ i = 9
  · rw [if_pos a, a.1, a.2]
  rw [if_neg a]
  by_cases a : k = 1 ∧ i = 10
  · rw [if_pos a, a.1, a.2]
  rw [if_neg a]
  by_cases a : k = 1 ∧ i = 11
  · rw [if_pos a, a.1, a.2]
  rw [if_neg a]
theorem sc_u4 (M : MM) (a w p d v : Int) : ux_ (sc M a w p d) 1 4 v = sc M v w p d := by
  funext k i
  unfold ux_ sc
  by_cases z : k = 1 ∧ i = 4
  · rw [if_pos z, if_pos z]
  · rw [if_neg z, if_neg z, if_neg z]
theorem sc_u9 (M : MM) (a w p d v : Int) : ux_ (sc M a w p d) 1 9 v = sc M a v p d := by
  funext k i
  unfold ux_ sc
  by_cases z : k = 1 ∧ i = 9
  · rw [if_pos z, if_neg (by omega), if_pos z]
  · rw [if_neg z, if_neg z, if_neg z]
theorem sc_u10 (M : MM) (a w p d v : Int) : ux_ (sc M a w p d) 1 10 v = sc M a w v d := by
  funext k i
  unfold ux_ sc
  by_cases z : k = 1 ∧ i = 10
  · rw [if_pos z, if_neg (by omega), if_neg (by omega), if_pos z]
  · rw [if_neg z, if_neg z, if_neg z]
theorem sc_u11 (M : MM) (a w p d v : Int) : ux_ (sc M a w p d) 1 11 v = sc M a w p v := by
  funext k i
  unfold ux_ sc
  by_cases z : k = 1 ∧ i = 11
  · rw [if_pos z, if_neg (by omega), if_neg (by omega), if_neg (by omega), if_pos z]
  · rw [if_neg z, if_neg z, if_neg z]
/-- e is where the run of P from a on ends -/
def span (P : Int → Prop) (s : Int → Int) (n a e : Int) : Prop := a ≤ e ∧ e ≤ n ∧ (∀ i, a ≤ i → i < e → P (s i)) ∧ (e < n → ¬ P (s e))
/-- a value worked out from a on, k steps -/
def fr (f : Int → Int → Int) (s : Int → Int) (a d : Int) : Nat → Int
  | 0 => d
  | k + 1 => f (fr f s a d k) (s (a + k))
/-- a tape as the words' reader needs it -/
def okT (M : MM) : Prop := 0 ≤ M 1 1 ∧ M 1 1 ≤ 4000 ∧ ∀ i, 0 ≤ i → i < M 1 1 → 0 ≤ M 2 i ∧ M 2 i ≤ 255
def f64 (d b : Int) : Int := w64 (w64 (d * 64) + sy b)
def f10 (d b : Int) : Int := w64 (w64 (w64 (d * 10) + b) - 48)
theorem p_keyword {Q : Int → MM → Prop} {x : Int} {M : MM} (h1 : ∀ k, 0 ≤ k → k < 29 → M 7 k = x → (∀ j, 0 ≤ j → j < k → M 7 j ≠ x) → Q (30 + k) M) (h0 : (∀ j, 0 ≤ j → j < 29 → M 7 j ≠ x) → Q (-1) M) : w_X9_keywordOf Q x M := by
  have H : ∀ (m : Nat) (k : Int), 0 ≤ k → k ≤ 29 → 29 - k < m → (∀ j, 0 ≤ j → j < k → M 7 j ≠ x) → jit (fun _ _ _ => False) (wb_X9_keywordOf_b2 Q) m x k M := by
    intro m
    induction m with
    | zero => intro k h0 h4 hn hf; omega
    | succ m ih =>
      intro k k0 k1 hm hf
      show wb_X9_keywordOf_b2 Q (jit (fun _ _ _ => False) (wb_X9_keywordOf_b2 Q) m) x k M
      unfold wb_X9_keywordOf_b2
      refine ⟨fun z => h0 (fun j j0 j1 => hf j j0 (by omega)), fun z => ⟨by omega, by omega, fun v ev gv => ⟨fun z2 => ⟨by unfold ri_; omega, ih (k + 1) (by omega) (by omega) (by omega) ?_⟩, fun z2 => ⟨by unfold ri_; omega, h1 k k0 (by omega) (by rw [← ev]; exact z2) hf⟩⟩⟩⟩
      intro j j0 j1
      by_cases e : j = k
      · rw [e, ← ev]; exact z2
      · exact hf j j0 (by omega)
  exact ⟨30, H 30 0 (by omega) (by omega) (by omega) (fun j j0 j1 => by omega)⟩
