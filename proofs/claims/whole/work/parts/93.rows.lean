/-! the rows of a watch, on both sides -/
def rq (q : Nat) (a o b v : Int) : Int := if q = 0 then a else if q = 1 then o else if q = 2 then b else v
def pshC (C C1 : MM) (w o b v : Int) : Prop := C1 43 w = (if C 43 w = 6 then 6 else C 43 w + 1) ∧ 0 ≤ C1 43 w ∧ C1 43 w ≤ 6 ∧ ∀ (j : Int) (q : Nat), 0 ≤ j → j < C1 43 w → q < 4 → C1 44 (24 * w + 4 * j + q) = if j = C1 43 w - 1 then rq q (C 36 1) o b v else if C 43 w = 6 then C 44 (24 * w + 4 * (j + 1) + q) else C 44 (24 * w + 4 * j + q)
def samC (C C1 : MM) (w : Int) : Prop := C1 43 w = C 43 w ∧ ∀ i, 24 * w ≤ i → i < 24 * w + 24 → C1 44 i = C 44 i
def pshR (R R1 : MM) (w o b v : Int) : Prop := R1 31 w = (if R 31 w = 6 then 6 else R 31 w + 1) ∧ 0 ≤ R1 31 w ∧ R1 31 w ≤ 6 ∧ ∀ (j : Int) (q : Nat), 0 ≤ j → j < R1 31 w → q < 4 → R1 (32 + q) (6 * w + j) = if j = R1 31 w - 1 then rq q (R 0 29) o b v else if R 31 w = 6 then R (32 + q) (6 * w + j + 1) else R (32 + q) (6 * w + j)
def samR (R R1 : MM) (w : Int) : Prop := R1 31 w = R 31 w ∧ ∀ (q : Nat) i, q < 4 → 6 * w ≤ i → i < 6 * w + 6 → R1 (32 + q) i = R (32 + q) i
def Rrow (C R : MM) (w : Int) : Prop := C 43 w = R 31 w ∧ 0 ≤ C 43 w ∧ C 43 w ≤ 6 ∧ ∀ (j : Int) (q : Nat), 0 ≤ j → j < C 43 w → q < 4 → C 44 (24 * w + 4 * j + q) = R (32 + q) (6 * w + j)
theorem row_push {C R C1 R1 : MM} {w o b v : Int} (h : Rrow C R w) (hw : C 36 1 = R 0 29) (hc : pshC C C1 w o b v) (hr : pshR R R1 w o b v) : Rrow C1 R1 w := by
  obtain ⟨h1, h2, h3, h4⟩ := h
  obtain ⟨c1, c2, c3, c4⟩ := hc
  obtain ⟨r1, r2, r3, r4⟩ := hr
  have e : C1 43 w = R1 31 w := by rw [c1, r1, h1]
  refine ⟨e, c2, c3, fun j q j0 j1 q4 => ?_⟩
  rw [c4 j q j0 j1 q4, r4 j q j0 (by omega) q4, hw, ← e, ← h1]
  by_cases z : j = C1 43 w - 1
  · rw [if_pos z, if_pos z]
  · rw [if_neg z, if_neg z]
    by_cases z2 : C 43 w = 6
    · rw [if_pos z2] at c1
      rw [if_pos z2, if_pos z2, h4 (j + 1) q (by omega) (by omega) q4, show 6 * w + (j + 1) = 6 * w + j + 1 from by omega]
    · rw [if_neg z2] at c1
      rw [if_neg z2, if_neg z2, h4 j q j0 (by omega) q4]
theorem row_same {C R C1 R1 : MM} {w : Int} (h : Rrow C R w) (hc : samC C C1 w) (hr : samR R R1 w) : Rrow C1 R1 w := by
  obtain ⟨h1, h2, h3, h4⟩ := h
  obtain ⟨c1, c2⟩ := hc
  obtain ⟨r1, r2⟩ := hr
  refine ⟨by rw [c1, r1]; exact h1, by omega, by omega, fun j q j0 j1 q4 => ?_⟩
  rw [c2 _ (by omega) (by omega), r2 q _ q4 (by omega) (by omega)]
  exact h4 j q j0 (by omega) q4
theorem samC_r {C : MM} {w : Int} : samC C C w := ⟨rfl, fun _ _ _ => rfl⟩
theorem samR_r {R : MM} {w : Int} : samR R R w := ⟨rfl, fun _ _ _ _ _ => rfl⟩
theorem samC_t {A B D : MM} {w : Int} (h : samC A B w) (h' : samC B D w) : samC A D w := ⟨by rw [h'.1, h.1], fun i a b => by rw [h'.2 i a b, h.2 i a b]⟩
theorem samR_t {A B D : MM} {w : Int} (h : samR A B w) (h' : samR B D w) : samR A D w := ⟨by rw [h'.1, h.1], fun q i z a b => by rw [h'.2 q i z a b, h.2 q i z a b]⟩
theorem pshC_l {A B D : MM} {w o b v : Int} (h : samC A B w) (e : B 36 1 = A 36 1) (n0 : 0 ≤ A 43 w) (n6 : A 43 w ≤ 6) (h' : pshC B D w o b v) : pshC A D w o b v := by
  obtain ⟨c1, c2, c3, c4⟩ := h'
  rw [h.1] at c1
  refine ⟨c1, c2, c3, fun j q j0 j1 q4 => ?_⟩
  rw [c4 j q j0 j1 q4, h.1, e]
  by_cases z : j = D 43 w - 1
  · rw [if_pos z, if_pos z]
  · rw [if_neg z, if_neg z]
    by_cases z2 : A 43 w = 6
    · rw [if_pos z2] at c1
      rw [if_pos z2, if_pos z2, h.2 _ (by omega) (by omega)]
    · rw [if_neg z2] at c1
      rw [if_neg z2, if_neg z2, h.2 _ (by omega) (by omega)]
theorem pshC_r {A B D : MM} {w o b v : Int} (h : pshC A B w o b v) (h' : samC B D w) : pshC A D w o b v := by
  obtain ⟨c1, c2, c3, c4⟩ := h
  refine ⟨by rw [h'.1]; exact c1, by rw [h'.1]; exact c2, by rw [h'.1]; exact c3, fun j q j0 j1 q4 => ?_⟩
  rw [h'.1] at j1 ⊢
  rw [h'.2 _ (by omega) (by omega)]
  exact c4 j q j0 j1 q4
theorem pshR_l {A B D : MM} {w o b v : Int} (h : samR A B w) (e : B 0 29 = A 0 29) (n0 : 0 ≤ A 31 w) (n6 : A 31 w ≤ 6) (h' : pshR B D w o b v) : pshR A D w o b v := by
  obtain ⟨c1, c2, c3, c4⟩ := h'
  rw [h.1] at c1
  refine ⟨c1, c2, c3, fun j q j0 j1 q4 => ?_⟩
  rw [c4 j q j0 j1 q4, h.1, e]
  by_cases z : j = D 31 w - 1
  · rw [if_pos z, if_pos z]
  · rw [if_neg z, if_neg z]
    by_cases z2 : A 31 w = 6
    · rw [if_pos z2] at c1
      rw [if_pos z2, if_pos z2, h.2 q _ q4 (by omega) (by omega)]
    · rw [if_neg z2] at c1
      rw [if_neg z2, if_neg z2, h.2 q _ q4 (by omega) (by omega)]
theorem pshR_r {A B D : MM} {w o b v : Int} (h : pshR A B w o b v) (h' : samR B D w) : pshR A D w o b v := by
  obtain ⟨c1, c2, c3, c4⟩ := h
  refine ⟨by rw [h'.1]; exact c1, by rw [h'.1]; exact c2, by rw [h'.1]; exact c3, fun j q j0 j1 q4 => ?_⟩
  rw [h'.1] at j1 ⊢
  rw [h'.2 q _ q4 (by omega) (by omega)]
  exact c4 j q j0 j1 q4
/-- one row more, where there is room -/
def apC (M : MM) (w n o b v : Int) : MM := fun k i => if k = 43 ∧ i = w then n + 1 else if k = 44 ∧ 24 * w + 4 * n ≤ i ∧ i < 24 * w + 4 * n + 4 then rq (i - (24 * w + 4 * n)).toNat (M 36 1) o b v else M k i
theorem p_addRow65 {Q : Int → MM → Prop} {w o b v n x : Int} {M : MM} (w0 : 0 ≤ w) (w1 : w < 6) (hn : M 43 w = n) (n0 : 0 ≤ n) (n1 : n < 6) (hx : x = 24 * w) (h : Q 0 (apC M w n o b v)) : w_X3_addRow_b65 Q w o b v x M := by
  unfold w_X3_addRow_b65
  refine ⟨w0, w1, fun v1 e1 g1 => ?_⟩
  rw [hn] at e1
  subst e1 hx
  refine ⟨by unfold ri_; omega, by unfold ri_; omega, fun v4 e4 g4 => ⟨by omega, by omega, fun M5 e5 => ⟨by unfold ri_; omega, by omega, by omega, fun M7 e7 => ⟨by unfold ri_; omega, by omega, by omega, fun M9 e9 => ⟨by unfold ri_; omega, by omega, by omega, fun M11 e11 => ⟨w0, w1, fun v12 e12 g12 => ?_⟩⟩⟩⟩⟩⟩
  have r12 : v12 = v1 := by rw [e12, e11, e9, e7, e5, ux_c _ _ _ _ (by decide), ux_c _ _ _ _ (by decide), ux_c _ _ _ _ (by decide), ux_c _ _ _ _ (by decide), hn]
  rw [r12]
  refine ⟨by unfold ri_; omega, w0, w1, fun M14 e14 => ?_⟩
  have : M14 = apC M w v1 o b v := by
    rw [e14, e11, e9, e7, e5, e4]
    funext k i
    unfold ux_ apC
    by_cases a : k = 44
    · subst a
      simp
      by_cases i0 : i = 24 * w + v1 * 4
      · rw [if_neg (by omega), if_neg (by omega), if_neg (by omega), if_pos i0, if_pos (by omega), i0, show (24 * w + v1 * 4 - (24 * w + 4 * v1)).toNat = 0 from by omega]; rfl
      · by_cases i1 : i = 24 * w + v1 * 4 + 1
        · rw [if_neg (by omega), if_neg (by omega), if_pos i1, if_pos (by omega), i1, show (24 * w + v1 * 4 + 1 - (24 * w + 4 * v1)).toNat = 1 from by omega]; rfl
        · by_cases i2 : i = 24 * w + v1 * 4 + 2
          · rw [if_neg (by omega), if_pos i2, if_pos (by omega), i2, show (24 * w + v1 * 4 + 2 - (24 * w + 4 * v1)).toNat = 2 from by omega]; rfl
          · by_cases i3 : i = 24 * w + v1 * 4 + 3
            · rw [if_pos i3, if_pos (by omega), i3, show (24 * w + v1 * 4 + 3 - (24 * w + 4 * v1)).toNat = 3 from by omega]; rfl
            · rw [if_neg i3, if_neg i2, if_neg i1, if_neg i0, if_neg (by omega)]
    · simp [a]
  rw [this]; exact h
def shq (M : MM) (p n : Int) : MM := fun k i => if k = 44 ∧ p ≤ i ∧ i < n then M 44 (i + 4) else M k i
theorem p_addRow {Q : Int → MM → Prop} {w o b v : Int} {C : MM} (w0 : 0 ≤ w) (w1 : w < 6) (n0 : 0 ≤ C 43 w) (n1 : C 43 w ≤ 6) (h : ∀ C1, (∀ k, k ≠ 43 → k ≠ 44 → C1 k = C k) → pshC C C1 w o b v → (∀ w', w' ≠ w → samC C C1 w') → Q 0 C1) : w_X3_addRow Q w o b v C := by
  unfold w_X3_addRow
  refine ⟨by unfold ri_; omega, by unfold ri_; omega, w0, w1, fun v3 e3 g3 => ?_⟩
  subst e3
  refine ⟨fun z => p_addRow65 w0 w1 rfl n0 (by omega) (by omega) (h _ ?_ ?_ ?_), fun z => ?_⟩
  · intro k a b
    funext i
    unfold apC
    rw [if_neg (by omega), if_neg (by omega)]
  · have e : apC C w (C 43 w) o b v 43 w = C 43 w + 1 := by simp [apC]
    refine ⟨by rw [e, if_neg z], by rw [e]; omega, by rw [e]; omega, fun j q j0 j1 q4 => ?_⟩
    rw [e] at j1 ⊢
    rw [if_neg z]
    unfold apC
    rw [if_neg (by omega)]
    by_cases y : j = C 43 w + 1 - 1
    · rw [if_pos (by omega), if_pos y, show (24 * w + 4 * j + (q : Int) - (24 * w + 4 * C 43 w)).toNat = q from by omega]
    · rw [if_neg (by omega), if_neg y]
  · intro w' hw
    refine ⟨?_, fun i a b => ?_⟩
    · unfold apC; rw [if_neg (by omega), if_neg (by omega)]
    · unfold apC; rw [if_neg (by omega), if_neg (by omega)]
  · unfold w_X3_addRow_b23
    refine loop7 _ (fun a c d e x y M1 => w = a ∧ o = c ∧ b = d ∧ v = e ∧ x = 24 * w ∧ 24 * w ≤ y ∧ y ≤ 24 * w + 20 ∧ shq C (24 * w) y = M1) (fun _ _ _ _ _ y _ => (24 * w + 20 - y).toNat) ?_ _ _ _ _ _ _ _ ⟨rfl, rfl, rfl, rfl, by omega, by omega, by omega, ?_⟩
    · rintro _ _ _ _ x y _ f ⟨rfl, rfl, rfl, rfl, rfl, y0, y1, rfl⟩ ih
      have e43 : ∀ i, shq C (24 * w) y 43 i = C 43 i := fun i => by unfold shq; rw [if_neg (by omega)]
      unfold wb_X3_addRow_b23
      refine ⟨by unfold ri_; omega, fun z2 => ⟨w0, w1, fun v3 e3 g3 => ?_⟩, fun z2 => ⟨by unfold ri_; omega, by omega, by omega, fun v7 e7 g7 => ⟨by omega, by omega, fun M8 e8 => ⟨by unfold ri_; omega, ih _ _ _ _ _ _ _ ⟨rfl, rfl, rfl, rfl, rfl, by omega, by omega, ?_⟩ (by omega)⟩⟩⟩⟩
      · rw [e43, z] at e3
        subst e3
        refine ⟨by unfold ri_; omega, w0, w1, fun M5 e5 => ?_⟩
        have ey : y = 24 * w + 20 := by omega
        subst ey
        have h43 : M5 43 w = 5 := by rw [e5, ux_s]; rfl
        refine p_addRow65 (n := 5) w0 w1 h43 (by omega) (by omega) rfl ?_
        have k43 : ∀ w', w' ≠ w → apC M5 w 5 o b v 43 w' = C 43 w' := by
          intro w' hw
          unfold apC
          rw [if_neg (by omega), if_neg (by omega), e5, ux_i _ _ _ hw, e43]
        have k44 : ∀ i, ¬ (24 * w + 20 ≤ i ∧ i < 24 * w + 24) → apC M5 w 5 o b v 44 i = if 24 * w ≤ i ∧ i < 24 * w + 20 then C 44 (i + 4) else C 44 i := by
          intro i hi
          unfold apC
          rw [if_neg (by omega), if_neg (by omega), e5, ux_c _ _ _ _ (by decide)]
          unfold shq
          by_cases q : 24 * w ≤ i ∧ i < 24 * w + 20
          · rw [if_pos ⟨rfl, q.1, q.2⟩, if_pos q]
          · rw [if_neg (by omega), if_neg q]
        have k36 : M5 36 1 = C 36 1 := by rw [e5, ux_c _ _ _ _ (by decide)]; unfold shq; rw [if_neg (by omega)]
        have e : apC M5 w 5 o b v 43 w = 6 := by simp [apC]
        refine h _ ?_ ⟨by rw [e, if_pos z], by rw [e]; omega, by rw [e]; omega, fun j q j0 j1 q4 => ?_⟩ fun w' hw => ⟨k43 w' hw, fun i a b => ?_⟩
        · intro k a b
          funext i
          unfold apC
          rw [if_neg (by omega), if_neg (by omega), e5, ux_c _ _ _ _ a]
          unfold shq
          rw [if_neg (by omega)]
        · rw [e] at j1 ⊢
          rw [if_pos z]
          by_cases yj : j = 6 - 1
          · rw [if_pos yj]
            unfold apC
            rw [if_neg (by omega), if_pos (by omega), k36, show (24 * w + 4 * j + (q : Int) - (24 * w + 4 * 5)).toNat = q from by omega]
          · rw [if_neg yj, k44 _ (by omega), if_pos (by omega), show 24 * w + 4 * j + (q : Int) + 4 = 24 * w + 4 * (j + 1) + (q : Int) from by omega]
        · rw [k44 _ (by omega), if_neg (by omega)]
      · rw [e8, e7]
        funext k i
        unfold ux_ shq
        by_cases a : k = 44
        · subst a
          simp
          by_cases b : i = y
          · rw [if_pos (by omega), if_pos b, if_neg (by omega), b]
          · rw [if_neg b]
            by_cases c : 24 * w ≤ i ∧ i < y
            · rw [if_pos c, if_pos (by omega)]
            · rw [if_neg c, if_neg (by omega)]
        · simp [a]
    · funext k i
      unfold shq
      rw [if_neg (by omega)]
