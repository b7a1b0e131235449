/-! whether a write is a watch's case; the reference's rows -/
def isC (way kd b v : Int) : Prop := way = 0 ∨ (way = 1 ∧ b ≠ v) ∨ (way = 2 ∧ v = fv kd ∧ b ≠ fv kd) ∨ (way = 3 ∧ ((kd = 5 ∧ b = -1 ∧ v ≠ -1) ∨ (kd ≠ 5 ∧ b < v)))
theorem p_isCase {Q : Int → MM → Prop} {w b v : Int} {M : MM} (w0 : 0 ≤ w) (w1 : w < 6) (c0 : 0 ≤ M 40 w) (c1 : M 40 w < 16) (k0 : 0 ≤ M 41 w) (k1 : M 41 w < 6) (y0 : 0 ≤ M 42 w) (y1 : M 42 w ≤ 3) (h1 : isC (M 42 w) (M 19 (6 * M 40 w + M 41 w)) b v → Q 1 M) (h0 : ¬ isC (M 42 w) (M 19 (6 * M 40 w + M 41 w)) b v → Q 0 M) : w_X3_isCase Q w b v M := by
  unfold w_X3_isCase
  refine ⟨w0, w1, fun v1 e1 g1 => ?_⟩
  subst e1
  refine ⟨by unfold ri_; omega, w0, w1, fun v3 e3 g3 => ?_⟩
  subst e3
  refine ⟨by unfold ri_; omega, by omega, by omega, fun v5 e5 g5 => ?_⟩
  rw [show M 40 w * 6 + M 41 w = 6 * M 40 w + M 41 w from by omega] at e5
  rw [← e5] at h1 h0
  have fin : ∀ r6, r6 = fv v5 → rl_ r6 → 0 ≤ w ∧ w < 6 ∧ (∀ v8, v8 = M 42 w → ri_ v8 → (v8 = 1 → (b = v → Q 0 M) ∧ (¬ b = v → Q 1 M)) ∧ (v8 = 2 → (¬ v = r6 → Q 0 M) ∧ (v = r6 → (b = r6 → Q 0 M) ∧ (¬ b = r6 → Q 1 M))) ∧ (v8 = 3 → (¬ v5 = 5 → (v ≤ b → Q 0 M) ∧ (¬ v ≤ b → Q 1 M)) ∧ (v5 = 5 → (¬ b = (-1) → Q 0 M) ∧ (b = (-1) → (v = (-1) → Q 0 M) ∧ (¬ v = (-1) → Q 1 M)))) ∧ (¬ v8 = 1 ∧ ¬ v8 = 2 ∧ ¬ v8 = 3 → Q 1 M)) := by
    intro r6 hr _
    refine ⟨w0, w1, fun v8 e8 g8 => ?_⟩
    rw [← e8] at h1 h0 y0 y1
    unfold isC at h1 h0
    rw [← hr] at h1 h0
    refine ⟨fun z => ⟨fun z2 => h0 (by omega), fun z2 => h1 (by omega)⟩, fun z => ⟨fun z2 => h0 (by omega), fun z2 => ⟨fun z3 => h0 (by omega), fun z3 => h1 (by omega)⟩⟩, fun z => ⟨fun z2 => ⟨fun z3 => h0 (by omega), fun z3 => h1 (by omega)⟩, fun z2 => ⟨fun z3 => h0 (by omega), fun z3 => ⟨fun z4 => h0 (by omega), fun z4 => h1 (by omega)⟩⟩⟩, fun z => h1 (by omega)⟩
  unfold w_X10_firstValue
  exact ⟨fun z5 => fin 0 (by unfold fv; rw [if_neg z5]), fun z5 => fin (-1) (by unfold fv; rw [if_pos z5])⟩
/-- one row more in the reference, where there is room -/
def apR (M : MM) (w n o b v : Int) : MM := fun k i => if k = 31 ∧ i = w then n + 1 else if 32 ≤ k ∧ k ≤ 35 ∧ i = 6 * w + n then rq (k - 32) (M 0 29) o b v else M k i
theorem p_look252 {Q : Int → MM → Prop} {w o b v n x : Int} {M : MM} (w0 : 0 ≤ w) (w1 : w < 6) (hn : M 31 w = n) (n0 : 0 ≤ n) (n1 : n < 6) (hx : x = 6 * w) (h : Q 0 (apR M w n o b v)) : w_X12_look_b252 Q w o b v x M := by
  unfold w_X12_look_b252
  refine ⟨w0, w1, fun v1 e1 g1 => ?_⟩
  rw [hn] at e1
  subst e1 hx
  refine ⟨by unfold ri_; omega, fun v3 e3 g3 => ⟨by omega, by omega, fun M4 e4 => ⟨by omega, by omega, fun M5 e5 => ⟨by omega, by omega, fun M6 e6 => ⟨by omega, by omega, fun M7 e7 => ⟨w0, w1, fun v8 e8 g8 => ?_⟩⟩⟩⟩⟩⟩
  have r8 : v8 = v1 := by rw [e8, e7, e6, e5, e4, ux_c _ _ _ _ (by decide), ux_c _ _ _ _ (by decide), ux_c _ _ _ _ (by decide), ux_c _ _ _ _ (by decide), hn]
  rw [r8]
  refine ⟨by unfold ri_; omega, w0, w1, fun M10 e10 => ?_⟩
  have : M10 = apR M w v1 o b v := by
    rw [e10, e7, e6, e5, e4, e3]
    funext k i
    unfold ux_ apR
    by_cases a : k = 31 ∨ k = 32 ∨ k = 33 ∨ k = 34 ∨ k = 35
    · rcases a with rfl | rfl | rfl | rfl | rfl <;> simp [rq]
    · rw [if_neg (by omega), if_neg (by omega), if_neg (by omega), if_neg (by omega), if_neg (by omega), if_neg (by omega), if_neg (by omega)]
  rw [this]; exact h
/-- four rows of cells moved down by one -/
def sh4 (c : Nat) (M : MM) (p n : Int) : MM := fun k i => if c ≤ k ∧ k ≤ c + 3 ∧ p ≤ i ∧ i < n then M k (i + 1) else M k i
theorem sh4_0 (c : Nat) (M : MM) (p : Int) : sh4 c M p p = M := by
  funext k i
  unfold sh4
  rw [if_neg (by omega)]
theorem sh4_s (c : Nat) (M : MM) (p y : Int) (h : p ≤ y) : ux_ (ux_ (ux_ (ux_ (sh4 c M p y) c y (M c (y + 1))) (c + 1) y (M (c + 1) (y + 1))) (c + 2) y (M (c + 2) (y + 1))) (c + 3) y (M (c + 3) (y + 1)) = sh4 c M p (y + 1) := by
  funext k i
  unfold ux_ sh4
  by_cases a : k = c ∨ k = c + 1 ∨ k = c + 2 ∨ k = c + 3
  · by_cases b : i = y
    · subst b
      rcases a with rfl | rfl | rfl | rfl
      · rw [if_neg (by omega), if_neg (by omega), if_neg (by omega), if_pos (by omega), if_pos (by omega)]
      · rw [if_neg (by omega), if_neg (by omega), if_pos (by omega), if_pos (by omega)]
      · rw [if_neg (by omega), if_pos (by omega), if_pos (by omega)]
      · rw [if_pos (by omega), if_pos (by omega)]
    · rw [if_neg (by omega), if_neg (by omega), if_neg (by omega), if_neg (by omega)]
      by_cases d : p ≤ i ∧ i < y
      · rw [if_pos (by omega), if_pos (by omega)]
      · rw [if_neg (by omega), if_neg (by omega)]
  · rw [if_neg (by omega), if_neg (by omega), if_neg (by omega), if_neg (by omega), if_neg (by omega), if_neg (by omega)]
theorem sh4_r (c : Nat) (M : MM) (p y i : Int) (k : Nat) (h : y ≤ i) : sh4 c M p y k i = M k i := by
  unfold sh4
  rw [if_neg (by omega)]
theorem sh4_k (c : Nat) (M : MM) (p y i : Int) (k : Nat) (h : k < c ∨ c + 3 < k) : sh4 c M p y k i = M k i := by
  unfold sh4
  rw [if_neg (by omega)]
theorem p_lookAdd {Q : Int → MM → Prop} {w o b v : Int} {R : MM} (w0 : 0 ≤ w) (w1 : w < 6) (n0 : 0 ≤ R 31 w) (n1 : R 31 w ≤ 6) (h : ∀ R1, (∀ k, k < 31 ∨ 35 < k → R1 k = R k) → pshR R R1 w o b v → (∀ w', w' ≠ w → samR R R1 w') → Q 0 R1) : w_X12_look_b134 Q w o b v 1 R := by
  unfold w_X12_look_b134
  refine ⟨fun _ => ⟨by unfold ri_; omega, w0, w1, fun v3 e3 g3 => ?_⟩, fun q => by omega⟩
  subst e3
  refine ⟨fun z => p_look252 w0 w1 rfl n0 (by omega) rfl (h _ ?_ ?_ ?_), fun z => ?_⟩
  · intro k a
    funext i
    unfold apR
    rw [if_neg (by omega), if_neg (by omega)]
  · have e : apR R w (R 31 w) o b v 31 w = R 31 w + 1 := by simp [apR]
    refine ⟨by rw [e, if_neg z], by rw [e]; omega, by rw [e]; omega, fun j q j0 j1 q4 => ?_⟩
    rw [e] at j1 ⊢
    rw [if_neg z]
    unfold apR
    rw [if_neg (by omega)]
    by_cases y : j = R 31 w + 1 - 1
    · rw [if_pos (by omega), if_pos y, show 32 + q - 32 = q from by omega]
    · rw [if_neg (by omega), if_neg y]
  · intro w' hw
    refine ⟨?_, fun q i a b c => ?_⟩
    · unfold apR; rw [if_neg (by omega), if_neg (by omega)]
    · unfold apR; rw [if_neg (by omega), if_neg (by omega)]
  · unfold w_X12_look_b163
    refine loop7 _ (fun a c d e x y M1 => w = a ∧ o = c ∧ b = d ∧ v = e ∧ x = 6 * w ∧ 6 * w ≤ y ∧ y ≤ 6 * w + 5 ∧ sh4 32 R (6 * w) y = M1) (fun _ _ _ _ _ y _ => (6 * w + 5 - y).toNat) ?_ _ _ _ _ _ _ _ ⟨rfl, rfl, rfl, rfl, rfl, by omega, by omega, sh4_0 _ _ _⟩
    rintro _ _ _ _ x y _ f ⟨rfl, rfl, rfl, rfl, rfl, y0, y1, rfl⟩ ih
    have e31 : ∀ i, sh4 32 R (6 * w) y 31 i = R 31 i := fun i => sh4_k _ _ _ _ _ _ (by omega)
    unfold wb_X12_look_b163
    refine ⟨by unfold ri_; omega, fun z2 => ⟨w0, w1, fun v3 e3 g3 => ?_⟩, fun z2 => ⟨by unfold ri_; omega, by omega, by omega, fun v7 e7 g7 => ⟨by omega, by omega, fun M8 e8 => ⟨by unfold ri_; omega, by omega, by omega, fun v10 e10 g10 => ⟨by omega, by omega, fun M11 e11 => ⟨by unfold ri_; omega, by omega, by omega, fun v13 e13 g13 => ⟨by omega, by omega, fun M14 e14 => ⟨by unfold ri_; omega, by omega, by omega, fun v16 e16 g16 => ⟨by omega, by omega, fun M17 e17 => ⟨by unfold ri_; omega, ih _ _ _ _ _ _ _ ⟨rfl, rfl, rfl, rfl, rfl, by omega, by omega, ?_⟩ (by omega)⟩⟩⟩⟩⟩⟩⟩⟩⟩⟩
    · rw [e31, z] at e3
      subst e3
      refine ⟨by unfold ri_; omega, w0, w1, fun M5 e5 => ?_⟩
      have ey : y = 6 * w + 5 := by omega
      subst ey
      have h31 : M5 31 w = 5 := by rw [e5, ux_s]; rfl
      refine p_look252 (n := 5) w0 w1 h31 (by omega) (by omega) rfl ?_
      have k31 : ∀ w', w' ≠ w → apR M5 w 5 o b v 31 w' = R 31 w' := by
        intro w' hw
        unfold apR
        rw [if_neg (by omega), if_neg (by omega), e5, ux_i _ _ _ hw, e31]
      have kq : ∀ (q : Nat) i, q < 4 → i ≠ 6 * w + 5 → apR M5 w 5 o b v (32 + q) i = if 6 * w ≤ i ∧ i < 6 * w + 5 then R (32 + q) (i + 1) else R (32 + q) i := by
        intro q i q4 hi
        unfold apR
        rw [if_neg (by omega), if_neg (by omega), e5, ux_c _ _ _ _ (by omega)]
        unfold sh4
        by_cases c : 6 * w ≤ i ∧ i < 6 * w + 5
        · rw [if_pos (by omega), if_pos c]
        · rw [if_neg (by omega), if_neg c]
      have k29 : M5 0 29 = R 0 29 := by rw [e5, ux_c _ _ _ _ (by decide), sh4_k _ _ _ _ _ _ (by omega)]
      have e : apR M5 w 5 o b v 31 w = 6 := by simp [apR]
      refine h _ ?_ ⟨by rw [e, if_pos z], by rw [e]; omega, by rw [e]; omega, fun j q j0 j1 q4 => ?_⟩ fun w' hw => ⟨k31 w' hw, fun q i a b c => ?_⟩
      · intro k a
        funext i
        unfold apR
        rw [if_neg (by omega), if_neg (by omega), e5, ux_c _ _ _ _ (by omega), sh4_k _ _ _ _ _ _ (by omega)]
      · rw [e] at j1 ⊢
        rw [if_pos z]
        by_cases yj : j = 6 - 1
        · rw [if_pos yj]
          unfold apR
          rw [if_neg (by omega), if_pos (by omega), k29, show 32 + q - 32 = q from by omega]
        · rw [if_neg yj, kq _ _ q4 (by omega), if_pos (by omega)]
      · rw [kq _ _ a (by omega), if_neg (by omega)]
    · rw [sh4_r _ _ _ _ _ _ (by omega)] at e7
      rw [e8, ux_c _ _ _ _ (by decide), sh4_r _ _ _ _ _ _ (by omega)] at e10
      rw [e11, e8, ux_c _ _ _ _ (by decide), ux_c _ _ _ _ (by decide), sh4_r _ _ _ _ _ _ (by omega)] at e13
      rw [e14, e11, e8, ux_c _ _ _ _ (by decide), ux_c _ _ _ _ (by decide), ux_c _ _ _ _ (by decide), sh4_r _ _ _ _ _ _ (by omega)] at e16
      rw [e17, e14, e11, e8, e16, e13, e10, e7]
      exact (sh4_s 32 R (6 * w) y y0).symm
theorem p_R_look {Q : Int → MM → Prop} {w o b v : Int} {R : MM} (w0 : 0 ≤ w) (w1 : w < 6) (f0 : 0 ≤ R 29 w) (f1 : R 29 w < 96) (y0 : 0 ≤ R 30 w) (y1 : R 30 w ≤ 3) (n0 : 0 ≤ R 31 w) (n1 : R 31 w ≤ 6) (h1 : isC (R 30 w) (R 12 (R 29 w)) b v → ∀ R1, (∀ k, k < 31 ∨ 35 < k → R1 k = R k) → pshR R R1 w o b v → (∀ w', w' ≠ w → samR R R1 w') → Q 0 R1) (h0 : ¬ isC (R 30 w) (R 12 (R 29 w)) b v → Q 0 R) : w_X12_look Q w o b v R := by
  have yes : isC (R 30 w) (R 12 (R 29 w)) b v → w_X12_look_b129 Q w o b v R := fun q => by
    unfold w_X12_look_b129
    exact p_lookAdd w0 w1 n0 n1 (h1 q)
  have no : ¬ isC (R 30 w) (R 12 (R 29 w)) b v → w_X12_look_b133 Q w o b v R := fun q => by
    unfold w_X12_look_b133 w_X12_look_b134
    exact ⟨fun q2 => absurd rfl q2, fun _ => h0 q⟩
  unfold isC at yes no
  have c87 : ∀ x7, (x7 = 0 ↔ R 12 (R 29 w) ≠ 5) → ¬ R 30 w = 0 → ¬ (R 30 w = 1 ∧ b ≠ v) → ¬ (R 30 w = 2 ∧ v = fv (R 12 (R 29 w)) ∧ b ≠ fv (R 12 (R 29 w))) → w_X12_look_b87 Q w o b v x7 R := by
    intro x7 hx a1 a2 a3
    unfold w_X12_look_b87
    refine ⟨w0, w1, fun v1 e1 _ => ?_⟩
    rw [e1]
    refine ⟨fun z => no (by omega), fun z => ⟨fun z2 => ⟨fun z3 => no (by have := hx.mp z2; omega), fun z3 => yes (by have := hx.mp z2; omega)⟩, fun z2 => ⟨fun z3 => no ?_, fun z3 => ⟨fun z4 => no ?_, fun z4 => yes ?_⟩⟩⟩⟩
    · have : R 12 (R 29 w) = 5 := by by_cases q : R 12 (R 29 w) = 5; exact q; exact absurd (hx.mpr q) z2
      omega
    · have : R 12 (R 29 w) = 5 := by by_cases q : R 12 (R 29 w) = 5; exact q; exact absurd (hx.mpr q) z2
      omega
    · have : R 12 (R 29 w) = 5 := by by_cases q : R 12 (R 29 w) = 5; exact q; exact absurd (hx.mpr q) z2
      omega
  have c34 : ∀ x7 s, (x7 = 0 ↔ R 12 (R 29 w) ≠ 5) → s = fv (R 12 (R 29 w)) → w_X12_look_b34 Q w o b v x7 s R := by
    intro x7 s hx hs
    have c62 : ¬ R 30 w = 0 → ¬ (R 30 w = 1 ∧ b ≠ v) → w_X12_look_b62 Q w o b v x7 s R := by
      intro a1 a2
      unfold w_X12_look_b62
      refine ⟨w0, w1, fun v1 e1 _ => ?_⟩
      rw [e1, hs]
      exact ⟨fun z => c87 x7 hx a1 a2 (by omega), fun z => ⟨fun z2 => c87 x7 hx a1 a2 (by omega), fun z2 => ⟨fun z3 => yes (by omega), fun z3 => c87 x7 hx a1 a2 (by omega)⟩⟩⟩
    unfold w_X12_look_b34
    refine ⟨w0, w1, fun v1 e1 _ => ?_⟩
    rw [e1]
    refine ⟨fun z => yes (by omega), fun z => ⟨w0, w1, fun v3 e3 _ => ?_⟩⟩
    rw [e3]
    exact ⟨fun z3 => c62 z (by omega), fun z3 => ⟨fun z4 => yes (by omega), fun z4 => c62 z (by omega)⟩⟩
  unfold w_X12_look
  refine ⟨w0, w1, fun v1 e1 _ => ?_⟩
  subst e1
  refine ⟨f0, f1, fun v2 e2 _ => ?_⟩
  unfold w_X12_look_b20
  refine ⟨fun z => ⟨fun _ => c34 0 0 (by rw [← e2]; omega) (by rw [← e2]; unfold fv; rw [if_neg z]), fun q => absurd rfl q⟩, fun z => ⟨fun q => by omega, fun _ => c34 1 (-1) (by rw [← e2]; omega) (by rw [← e2]; unfold fv; rw [if_pos z])⟩⟩
