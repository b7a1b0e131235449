/-! the classes: what is the same in the class and in the reference -/
/-- the m-th class above c -/
def upn (C : MM) (c : Int) : Nat → Int
  | 0 => c
  | m + 1 => if upn C c m = -1 then -1 else C 11 (upn C c m)
def bsC (C : MM) (c : Int) : Int := if C 11 c = -1 then 0 else C 16 (C 11 c)
def enC (C : MM) (c : Int) : Int := if C 11 c = -1 then 12 else C 17 (C 11 c)
/-- slot j of class c is own field k of a class x above it -/
def slC (C : MM) (c j : Int) : Prop := ∃ (m : Nat) (x k : Int), upn C c m = x ∧ 0 ≤ x ∧ 0 ≤ k ∧ k < C 14 x ∧ C 21 (6 * x + k) = 0 ∧ C 22 (6 * x + k) = j ∧ C 23 (96 * c + j) = C 18 (6 * x + k) ∧ C 24 (96 * c + j) = C 19 (6 * x + k) ∧ C 25 (96 * c + j) = C 20 (6 * x + k)
def Rcls (C R : MM) (c : Int) : Prop := nr (C 9 c) (R 4 c) ∧ C 10 c = R 7 c ∧ C 11 c = R 8 c ∧ -1 ≤ C 11 c ∧ C 11 c < c ∧ C 12 c = R 16 c ∧ C 13 c = R 18 c ∧ C 14 c = R 9 c ∧ 0 ≤ C 14 c ∧ C 14 c ≤ 6 ∧ C 16 c = R 10 c ∧ C 17 c = R 11 c ∧ (C 11 c = -1 ∨ C 12 (C 11 c) = 1)
def Rfld (C R : MM) (f : Int) : Prop := nr (C 18 f) (R 5 f) ∧ C 19 f = R 12 f ∧ 0 ≤ C 19 f ∧ C 19 f ≤ 5 ∧ C 20 f = R 13 f ∧ C 21 f = R 17 f ∧ C 22 f = R 14 f
def Rlay (C R : MM) (c : Int) : Prop := C 15 c = C 14 c - ns (C 21) (6 * c) (C 14 c).toNat ∧ C 16 c = bsC C c + ns (C 21) (6 * c) (C 14 c).toNat ∧ C 17 c = lb (C 21) (C 19) (6 * c) (enC C c) (C 14 c).toNat 0 ∧ ∀ j : Nat, (j : Int) < C 14 c → C 22 (6 * c + j) = sl (C 21) (6 * c) (bsC C c) j ∧ (C 21 (6 * c + j) = 0 → R 15 (6 * c + j) = lp (C 21) (C 19) (6 * c) (enC C c) (C 14 c).toNat j)
def Rty (C R : MM) : Prop := C 8 0 = R 0 20 ∧ 0 ≤ C 8 0 ∧ C 8 0 ≤ 16 ∧ (∀ c, 0 ≤ c → c < C 8 0 → Rcls C R c ∧ Rlay C R c ∧ (∀ j, 0 ≤ j → j < C 16 c → slC C c j) ∧ ∀ k, 0 ≤ k → k < C 14 c → Rfld C R (6 * c + k)) ∧
  (∀ c, C 8 0 ≤ c → c < 16 → C 12 c = 0 ∧ C 13 c = 0 ∧ R 18 c = 0 ∧ C 14 c = 0 ∧ C 15 c = 0 ∧ C 16 c = 0) ∧ (∀ c k, 0 ≤ c → c < 16 → C 14 c ≤ k → k < 6 → C 21 (6 * c + k) = 0)
/-- bounds of slots and bytes -/
theorem ty_bd {C R : MM} (h : Rty C R) (c : Int) (h0 : 0 ≤ c) (h1 : c < C 8 0) : 0 ≤ C 16 c ∧ C 16 c ≤ 6 * (c + 1) ∧ 12 ≤ C 17 c ∧ C 17 c ≤ 12 + 400 * (c + 1) := by
  have H : ∀ (m : Nat) (c : Int), 0 ≤ c → c < C 8 0 → c < m → 0 ≤ C 16 c ∧ C 16 c ≤ 6 * (c + 1) ∧ 12 ≤ C 17 c ∧ C 17 c ≤ 12 + 400 * (c + 1) := by
    intro m
    induction m with
    | zero => intro c c0 c1 cm; omega
    | succ m ih =>
      intro c c0 c1 cm
      obtain ⟨hc, hl, -⟩ := h.2.2.2.1 c c0 c1
      obtain ⟨-, -, -, p1, p2, -, -, -, n1, n2, -⟩ := hc
      obtain ⟨-, l2, l3, -⟩ := hl
      have hn := ns_bd (C 21) (6 * c) (C 14 c).toNat
      have hb := lb_bd (st := C 21) (kd := C 19) (b := 6 * c) (e := enC C c) (n := (C 14 c).toNat) (by omega) 0 (Or.inr rfl)
      unfold bsC at l2
      unfold enC at hb l3
      by_cases z : C 11 c = -1
      · rw [if_pos z] at l2 hb l3
        omega
      · rw [if_neg z] at l2 hb l3
        have := ih (C 11 c) (by omega) (by omega) (by omega)
        omega
  exact H (c.toNat + 1) c h0 h1 (by omega)
set_option maxHeartbeats 800000 in
theorem p_addClass {Q : Int → MM → Prop} {x u l : Int} {C : MM} (n0 : 0 ≤ C 8 0) (n1 : C 8 0 < 16) (u0 : -1 ≤ u) (u1 : u < C 8 0) (s0 : u ≠ -1 → 0 ≤ C 16 u ∧ C 16 u ≤ 96) (he : u ≠ -1 → ri_ (C 17 u))
    (h : ∀ C', (∀ k i, k ≠ 8 → k ≠ 9 → k ≠ 10 → k ≠ 11 → k ≠ 12 → k ≠ 16 → k ≠ 17 → k ≠ 23 → k ≠ 24 → k ≠ 25 → C' k i = C k i) → C' 8 0 = C 8 0 + 1 →
      (∀ i, C' 9 i = if i = C 8 0 then x else C 9 i) → (∀ i, C' 10 i = if i = C 8 0 then l else C 10 i) → (∀ i, C' 11 i = if i = C 8 0 then u else C 11 i) → (∀ i, C' 12 i = if u ≠ -1 ∧ i = u then 1 else C 12 i) →
      (∀ i, C' 16 i = if u ≠ -1 ∧ i = C 8 0 then C 16 u else C 16 i) → (∀ i, C' 17 i = if i = C 8 0 then (if u = -1 then 12 else C 17 u) else C 17 i) →
      (∀ k i, (k = 23 ∨ k = 24 ∨ k = 25) → C' k i = if u ≠ -1 ∧ 96 * C 8 0 ≤ i ∧ i < 96 * C 8 0 + C 16 u then C k (96 * u + (i - 96 * C 8 0)) else C k i) → Q (C 8 0) C') : w_X10_addClass Q x u l C := by
  unfold w_X10_addClass
  intro v1 e1 g1 v2 e2 g2
  subst e1 e2
  refine ⟨by unfold ri_; omega, fun M4 e4 => ⟨n0, n1, fun M5 e5 => ⟨n0, n1, fun M6 e6 => ⟨n0, n1, fun M7 e7 => ⟨n0, n1, fun M8 e8 => ⟨fun z => ?_, fun z => ?_⟩⟩⟩⟩⟩⟩
  · subst e8 e7 e6 e5 e4
    refine h _ ?_ ?_ ?_ ?_ ?_ ?_ ?_ ?_ ?_
    · intro k i a1 a2 a3 a4 a5 a6 a7 a8 a9 a10
      rw [ux_c _ _ _ _ a7, ux_c _ _ _ _ a3, ux_c _ _ _ _ a4, ux_c _ _ _ _ a2, ux_c _ _ _ _ a1]
    · simp [ux_]
    · intro i; simp [ux_]
    · intro i; simp [ux_]
    · intro i; simp [ux_]
    · intro i; simp [ux_, z]
    · intro i; simp [ux_, z]
    · intro i; simp [ux_, z]
    · intro k i hk; rcases hk with rfl | rfl | rfl <;> simp [ux_, z]
  · have hs := s0 z
    have hM17 : M8 17 u = C 17 u := by
      subst e8 e7 e6 e5 e4
      have hne : ¬ u = C 8 0 := by omega
      simp [ux_, hne]
    refine ⟨by omega, by omega, fun M10 e10 => ⟨by omega, by omega, fun v11 e11 g11 => ⟨n0, n1, fun M12 e12 => ⟨by omega, by omega, fun v13 e13 g13 => ⟨n0, n1, fun M14 e14 => ?_⟩⟩⟩⟩⟩
    have e11' : v11 = C 17 u := by rw [e11, e10, ux_c _ _ _ _ (by decide)]; exact hM17
    have e13' : v13 = C 16 u := by
      rw [e13, e12, e10]
      subst e8 e7 e6 e5 e4
      simp [ux_]
    have h16 : M14 16 (C 8 0) = C 16 u := by rw [e14, ux_s]; exact e13'
    refine ⟨by unfold ri_; omega, by unfold ri_; omega, n0, n1, fun v17 e17 g17 => ?_⟩
    rw [h16] at e17
    refine ⟨by omega, by omega, by omega, by omega, by omega, fun M18 e18 => ⟨by unfold ri_; omega, by unfold ri_; omega, n0, n1, fun v21 e21 g21 => ?_⟩⟩
    have e21' : v21 = C 16 u := by rw [e21, e18]; simp [jcp]; exact h16
    refine ⟨by omega, by omega, by omega, by omega, by omega, fun M22 e22 => ⟨by unfold ri_; omega, by unfold ri_; omega, n0, n1, fun v25 e25 g25 => ?_⟩⟩
    have e25' : v25 = C 16 u := by rw [e25, e22, e18]; simp [jcp]; exact h16
    refine ⟨by omega, by omega, by omega, by omega, by omega, fun M26 e26 => ?_⟩
    have hne : ¬ u = C 8 0 := by omega
    have cell : ∀ k i, M26 k i = if k = 25 ∧ C 8 0 * 96 ≤ i ∧ i < C 8 0 * 96 + C 16 u then M14 25 (u * 96 + (i - C 8 0 * 96)) else if k = 24 ∧ C 8 0 * 96 ≤ i ∧ i < C 8 0 * 96 + C 16 u then M14 24 (u * 96 + (i - C 8 0 * 96)) else if k = 23 ∧ C 8 0 * 96 ≤ i ∧ i < C 8 0 * 96 + C 16 u then M14 23 (u * 96 + (i - C 8 0 * 96)) else M14 k i := by
      intro k i
      rw [e26, e25', e22, e21', e18, e17]
      unfold jcp
      by_cases a : k = 25 ∧ C 8 0 * 96 ≤ i ∧ i < C 8 0 * 96 + C 16 u
      · rw [if_pos a, if_pos a, if_neg (by omega), if_neg (by omega)]
      rw [if_neg a, if_neg a]
      by_cases b : k = 24 ∧ C 8 0 * 96 ≤ i ∧ i < C 8 0 * 96 + C 16 u
      · rw [if_pos b, if_pos b, if_neg (by omega)]
      rw [if_neg b, if_neg b]
    have m14 : ∀ k i, M14 k i = if k = 16 ∧ i = C 8 0 then C 16 u else if k = 17 ∧ i = C 8 0 then C 17 u else if k = 12 ∧ i = u then 1 else if k = 10 ∧ i = C 8 0 then l else if k = 11 ∧ i = C 8 0 then u else if k = 9 ∧ i = C 8 0 then x else if k = 8 ∧ i = 0 then C 8 0 + 1 else C k i := by
      intro k i
      rw [e14, e13', e12, e11', e10, e8, e7, e6, e5, e4]
      unfold ux_
      by_cases a : k = 17 ∧ i = C 8 0
      · rw [if_neg (by omega), if_pos a, if_neg (by omega), if_pos a]
      · by_cases b : k = 16 ∧ i = C 8 0
        · rw [if_pos b, if_pos b]
        · rw [if_neg b, if_neg a, if_neg b, if_neg a, if_neg a]
    refine h M26 ?_ ?_ ?_ ?_ ?_ ?_ ?_ ?_ ?_
    · intro k i a1 a2 a3 a4 a5 a6 a7 a8 a9 a10
      rw [cell, if_neg (by omega), if_neg (by omega), if_neg (by omega), m14, if_neg (by omega), if_neg (by omega), if_neg (by omega), if_neg (by omega), if_neg (by omega), if_neg (by omega), if_neg (by omega)]
    · rw [cell]; simp; rw [m14]; simp
    · intro i; rw [cell]; simp; rw [m14]; simp
    · intro i; rw [cell]; simp; rw [m14]; simp
    · intro i; rw [cell]; simp; rw [m14]; simp
    · intro i; rw [cell]; simp; rw [m14]; simp [z]
    · intro i; rw [cell]; simp; rw [m14]; simp [z]
    · intro i; rw [cell]; simp; rw [m14]; simp [z]
    · intro k i hk
      rw [cell, show u * 96 = 96 * u from by omega, show C 8 0 * 96 = 96 * C 8 0 from by omega]
      have m9 : ∀ q i, (q = 23 ∨ q = 24 ∨ q = 25) → M14 q i = C q i := fun q i hq => by rw [m14, if_neg (by omega), if_neg (by omega), if_neg (by omega), if_neg (by omega), if_neg (by omega), if_neg (by omega), if_neg (by omega)]
      rw [m9 25 _ (by omega), m9 24 _ (by omega), m9 23 _ (by omega), m9 k _ hk]
      rcases hk with rfl | rfl | rfl <;> simp [z]
