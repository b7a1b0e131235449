/-! what a question sees of the reference -/
def vw (R N : MM) (lo hi f : Int) : MM := fun k i => if k = 0 then (if i = -1 then lo else if i = -2 then hi else if i = -3 then f else R 0 i) else if 66 ≤ k ∧ k ≤ 70 then N k i else R k i
theorem vw_k {R N : MM} {lo hi f : Int} {k : Nat} (h0 : k ≠ 0) (h : k < 66 ∨ 70 < k) : vw R N lo hi f k = R k := funext fun i => by unfold vw; rw [if_neg h0, if_neg (by omega)]
theorem vw_n {R N : MM} {lo hi f : Int} {k : Nat} (a : 66 ≤ k) (b : k ≤ 70) (i : Int) : vw R N lo hi f k i = N k i := by unfold vw; rw [if_neg (by omega), if_pos ⟨a, b⟩]
theorem vw_0 {R N : MM} {lo hi f i : Int} (h : 0 ≤ i) : vw R N lo hi f 0 i = R 0 i := by unfold vw; rw [if_pos rfl, if_neg (by omega), if_neg (by omega), if_neg (by omega)]
theorem vw_1 {R N : MM} {lo hi f : Int} : vw R N lo hi f 0 (-1) = lo ∧ vw R N lo hi f 0 (-2) = hi ∧ vw R N lo hi f 0 (-3) = f := ⟨rfl, rfl, rfl⟩
theorem vw_A {R N : MM} {lo hi f : Int} : nAg N (vw R N lo hi f) lo hi := ⟨⟨Int.le_refl _, Int.le_refl _⟩, fun j i a b _ _ => vw_n a b i⟩
theorem vw_B {R N R' : MM} {lo hi f p : Int} (e : ∀ k, 4 ≤ k → k ≤ 18 → k ≠ 6 → R' k = R k) (e20 : R' 0 20 = R 0 20) (hp : ∀ (M0 : MM) (pc : Nat), Rty M0 R → PW M0 pc → Rpb M0 R pc p → Rpb M0 R' pc p ∧ ∀ t, 0 ≤ t → t < M0 pc 0 → R' 43 (400 * p + t) = R 43 (400 * p + t) ∧ (f = 1 → R' 47 (400 * p + t) = R 47 (400 * p + t))) (hn : ∀ j i, 66 ≤ j → j ≤ 70 → lo ≤ i → i < hi → R' j i = N j i) : RB0 p (vw R N lo hi f) (ux_ R' 0 97 p) := by
  refine ⟨⟨fun k a b c => ?_, ?_⟩, ⟨fun j i a b x y => ?_, fun M0 pc hy hw hb => ?_⟩, ux_s _ _ _ _⟩
  · rw [ux_g _ _ _ (by omega), e k a b c, vw_k (by omega) (by omega)]
  · rw [ux_i _ _ _ (by decide), e20, vw_0 (by decide)]
  · rw [ux_g _ _ _ (by omega), vw_n a b]; exact hn j i a b x y
  · obtain ⟨h1, h2⟩ := hp M0 pc (Rty_R hy (fun k a b _ => (vw_k (by omega) (by omega)).symm) (vw_0 (by decide)).symm) hw (Rpb_M hb (fun k hk => (vw_k (by intro y; rw [y] at hk; revert hk; decide) (by simp at hk; omega)).symm))
    refine ⟨Rpb_M h1 (fun k hk => ux_g _ _ _ (by intro y; rw [y] at hk; revert hk; decide)), fun t t0 t1 => ?_⟩
    rw [ux_g _ _ _ (show (43 : Nat) ≠ 0 by decide), ux_g _ _ _ (show (47 : Nat) ≠ 0 by decide), vw_k (k := 43) (by decide) (by decide), vw_k (k := 47) (by decide) (by decide)]
    exact h2 t t0 t1
theorem vw_B0 {R N R' : MM} {lo hi f p : Int} (e : ∀ k, k ≠ 0 → k < 60 → R' k = R k) (e20 : R' 0 20 = R 0 20) (hn : ∀ j i, 66 ≤ j → j ≤ 70 → lo ≤ i → i < hi → R' j i = N j i) : RB0 p (vw R N lo hi f) (ux_ R' 0 97 p) := vw_B (fun k a b _ => e k (by omega) (by omega)) e20 (fun M0 pc _ _ hb => ⟨Rpb_M hb (fun k hk => e k (by intro y; rw [y] at hk; revert hk; decide) (by simp at hk; omega)), fun t _ _ => ⟨by rw [e 43 (by decide) (by decide)], fun _ => by rw [e 47 (by decide) (by decide)]⟩⟩) hn
def SXq (B : Int) (M : MM) : Prop := ∀ f, 0 ≤ f → f < 11 → 0 ≤ M 231 f ∧ M 231 f ≤ B ∧ (∀ t, 0 ≤ t → t < 400 → M 230 (400 * f + t) ≤ M 231 f) ∧ 0 ≤ M 223 f
theorem SXq_I {B : Int} {M M' : MM} (h : SXq B M) (e : ∀ k, k = 231 ∨ k = 230 ∨ k = 223 → M' k = M k) (e3 : M' 219 3 = 0) : SI B M' := fun f f0 f1 => by
  rw [e 231 (by omega), e 230 (by omega), e 223 (by omega), e3]
  obtain ⟨a, b, c, d⟩ := h f f0 f1
  exact ⟨a, by omega, c, d⟩
theorem SIq_X {B : Int} {M : MM} (h : SI B M) (h3 : M 219 3 ≤ 30001) : SXq (B + 30001) M := fun f f0 f1 => by
  obtain ⟨a, b, c, d⟩ := h f f0 f1
  exact ⟨a, by omega, c, d⟩
theorem SXq_e {B : Int} {M M' : MM} (h : SXq B M) (e : ∀ k, k = 231 ∨ k = 230 ∨ k = 223 → M' k = M k) : SXq B M' := fun f f0 f1 => by
  rw [e 231 (by omega), e 230 (by omega), e 223 (by omega)]; exact h f f0 f1
theorem SXq_m {B B' : Int} {M : MM} (h : SXq B M) (hb : B ≤ B') : SXq B' M := fun f f0 f1 => by
  obtain ⟨a, b, c, d⟩ := h f f0 f1
  exact ⟨a, by omega, c, d⟩
def Ran (C R : MM) : Prop := C 219 20 = R 0 110 ∧ 0 ≤ C 219 20 ∧ C 219 20 ≤ 4000 ∧ ∀ k, 0 ≤ k → k < C 219 20 → C 232 k = R 75 k ∧ C 233 k = R 76 k ∧ C 234 k = R 77 k
theorem Ran_L {C R : MM} {L : List (Int × Int × Int)} (hl : L.length ≤ 4000) (c : C 219 20 = L.length) (r : R 0 110 = L.length) (hc : CRw 232 0 L C) (hr : CRw 75 0 L R) : Ran C R := by
  refine ⟨by rw [c, r], by omega, by omega, fun k k0 k1 => ?_⟩
  have a := hc k.toNat (by omega)
  have b := hr k.toNat (by omega)
  rw [show (0 : Int) + (k.toNat : Nat) = k from by omega] at a b
  exact ⟨by rw [a.1, b.1], by rw [a.2.1, b.2.1], by rw [a.2.2, b.2.2]⟩
theorem Ran_0 {C R : MM} (c : C 219 20 = 0) (r : R 0 110 = 0) : Ran C R := ⟨by rw [c, r], by omega, by omega, fun k a b => by omega⟩
theorem ShH_of {C R : MM} {c : Nat} {p : Int} (h : Rpic C R c p) : ShH C c := by
  obtain ⟨hw, hb, ht, k1, k2, k3, k4, k5, k6⟩ := h
  refine ⟨k1, k2, k3, fun y t a b => ?_⟩
  obtain ⟨q1, q2, q3⟩ := k4 y t a b
  rw [q1, q2, q3]
  exact ht.2.2.2.2.2.1 t a b
