/-! the words of a text, by the reference -/
theorem p_R_byteAt {Q : Int → MM → Prop} {M : MM} {p n : Int} {s : Int → Int} (p0 : 0 ≤ p) (h3 : M 0 3 = n) (n4 : n ≤ 4000) (hs : ∀ i, 0 ≤ i → i < n → s i = M 1 i % 256) (k1 : n ≤ p → Q (-1) M) (k2 : p < n → Q (s p) M) : w_X12_byteAt Q p M := by
  unfold w_X12_byteAt
  intro v1 e1 _
  rw [h3] at e1
  refine ⟨fun z => k1 (by omega), fun z => ⟨p0, by omega, fun v3 e3 _ => ?_⟩⟩
  rw [jand_255, e3, ← hs p p0 (by omega)]
  exact k2 (by omega)
theorem lpM {Y : Type} (b : (Y → Prop) → Y → Prop) (I : Y → Prop) (μ : Y → Nat) (H : ∀ y f, I y → (∀ y', I y' → μ y' < μ y → f y') → b f y) (y : Y) (h : I y) : ∃ n, jit (fun _ => False) b n y := by
  refine ⟨μ y + 1, ?_⟩
  have : ∀ (m : Nat) (y : Y), I y → μ y < m → jit (fun _ => False) b m y := by
    intro m
    induction m with
    | zero => intro y _ hm; omega
    | succ m ih =>
      intro y hy hm
      show b (jit (fun _ => False) b m) y
      exact H y _ hy (fun y' hy' hlt => ih y' hy' (by omega))
  exact this _ y h (by omega)
/-- the word at hand, on both sides -/
def tk (N : MM) (W D : Int) : Prop := (W = 0 ∧ N 0 80 = 0) ∨ (W = 1 ∧ N 0 80 = 4) ∨ (W = 2 ∧ N 0 80 = 1 ∧ nr D (N 0 85) ∧ ∀ j, 0 ≤ j → j < 29 → N 3 j ≠ N 0 85) ∨ (W = 3 ∧ N 0 80 = 2 ∧ N 0 85 = D) ∨ (∃ j : Int, 0 ≤ j ∧ j < 16 ∧ W = 4 + j ∧ N 0 80 = 3 ∧ N 0 85 = sgb j.toNat) ∨ (W = 20 ∧ N 0 80 = 3 ∧ N 0 85 = 8509) ∨ (W = 21 ∧ N 0 80 = 3 ∧ N 0 85 = 15421) ∨ (W = 22 ∧ N 0 80 = 3 ∧ N 0 85 = 15933) ∨ (∃ k : Int, 0 ≤ k ∧ k < 29 ∧ W = 30 + k ∧ N 0 80 = 1 ∧ N 0 85 = N 3 (kp k))
def FA (N M : MM) : Prop := (∀ k, k ≠ 0 → M k = N k) ∧ ∀ i, i ∉ ([78, 79, 80, 85] : List Int) → M 0 i = N 0 i
theorem FA_u {N M : MM} (h : FA N M) {i : Int} (v : Int) (hi : i ∈ ([78, 79, 80, 85] : List Int)) : FA N (ux_ M 0 i v) := ⟨fun k a => by funext j; rw [ux_c _ _ _ _ a, h.1 k a], fun j hj => by rw [ux_i _ _ _ (fun y => hj (by rw [y]; exact hi)), h.2 j hj]⟩
theorem fr_sh (f : Int → Int → Int) (s : Int → Int) (a d : Int) : ∀ n : Nat, fr f s a d n = fr f (fun i => s (a + i)) 0 d n
  | 0 => rfl
  | n + 1 => by
    show f (fr f s a d n) (s (a + n)) = f (fr f (fun i => s (a + i)) 0 d n) (s (a + (0 + n)))
    rw [fr_sh f s a d n, show (0 : Int) + n = n from by omega]
theorem sgb_all : ∀ j : Nat, j < 16 → sgb j = 40 ∨ sgb j = 41 ∨ sgb j = 91 ∨ sgb j = 93 ∨ sgb j = 46 ∨ sgb j = 44 ∨ sgb j = 58 ∨ sgb j = 59 ∨ sgb j = 61 ∨ sgb j = 60 ∨ sgb j = 62 ∨ sgb j = 43 ∨ sgb j = 45 ∨ sgb j = 42 ∨ sgb j = 47 ∨ sgb j = 37 := by decide
theorem p_342 {Q : Int → MM → Prop} {M : MM} {x y z : Int} (h1 : ∀ j : Nat, j < 16 → sgb j = x → w_X12_advance_b444 Q x y z 1 M) (h0 : (∀ j : Nat, j < 16 → sgb j ≠ x) → w_X12_advance_b444 Q x y z 0 M) : w_X12_advance_b342 Q x y z M := by
  unfold w_X12_advance_b342 w_X12_advance_b439
  by_cases hx : ∃ j : Nat, j < 16 ∧ sgb j = x
  · obtain ⟨j, j1, j2⟩ := hx
    have g := h1 j j1 j2
    have := sgb_all j j1
    rw [j2] at this
    exact ⟨fun _ => g, fun _ => ⟨fun _ => g, fun _ => ⟨fun _ => g, fun _ => ⟨fun _ => g, fun _ => ⟨fun _ => g, fun _ => ⟨fun _ => g, fun _ => ⟨fun _ => g, fun _ => ⟨fun _ => g, fun _ => ⟨fun _ => g, fun _ => ⟨fun _ => g, fun _ => ⟨fun _ => g, fun _ => ⟨fun _ => g, fun _ => ⟨fun _ => g, fun _ => ⟨fun _ => g, fun _ => ⟨fun _ => g, fun _ => ⟨fun q => by omega, fun _ => g⟩⟩⟩⟩⟩⟩⟩⟩⟩⟩⟩⟩⟩⟩⟩⟩
  · have g := h0 (fun j j1 j2 => hx ⟨j, j1, j2⟩)
    have n : ∀ j : Nat, j < 16 → x ≠ sgb j := fun j j1 j2 => hx ⟨j, j1, j2.symm⟩
    exact ⟨fun q => absurd q (n 0 (by decide)), fun _ => ⟨fun q => absurd q (n 1 (by decide)), fun _ => ⟨fun q => absurd q (n 2 (by decide)), fun _ => ⟨fun q => absurd q (n 3 (by decide)), fun _ => ⟨fun q => absurd q (n 7 (by decide)), fun _ => ⟨fun q => absurd q (n 4 (by decide)), fun _ => ⟨fun q => absurd q (n 5 (by decide)), fun _ => ⟨fun q => absurd q (n 6 (by decide)), fun _ => ⟨fun q => absurd q (n 8 (by decide)), fun _ => ⟨fun q => absurd q (n 9 (by decide)), fun _ => ⟨fun q => absurd q (n 10 (by decide)), fun _ => ⟨fun q => absurd q (n 11 (by decide)), fun _ => ⟨fun q => absurd q (n 12 (by decide)), fun _ => ⟨fun q => absurd q (n 13 (by decide)), fun _ => ⟨fun q => absurd q (n 14 (by decide)), fun _ => ⟨fun _ => g, fun q => absurd q (n 15 (by decide))⟩⟩⟩⟩⟩⟩⟩⟩⟩⟩⟩⟩⟩⟩⟩⟩
/-- the end of a sign -/
theorem p_461 {Q : Int → MM → Prop} {N M : MM} {x y z q κ : Int} (hF : FA N M) (h78 : M 0 78 = q) (h79 : M 0 79 = q) (q0 : 0 ≤ q) (q4 : q ≤ 4000) (hq : ∀ N', FA N N' → N' 0 78 = (if z = 0 then q + 1 else q + 2) → N' 0 79 = q → N' 0 80 = κ → N' 0 85 = (if z = 0 then x else w64 (w64 (256 * x) + y)) → Q 0 N') : w_X12_advance_b461 Q x y z κ M := by
  have g : ∀ w : Int, (w = if z = 0 then x else w64 (w64 (256 * x) + y)) → w_X12_advance_b483 Q z w (ux_ M 0 80 κ) := fun w hw => by
    unfold w_X12_advance_b483 w_X12_advance_b500
    intro M1 e1 v2 e2 _
    rw [e1, ux_i _ _ _ (by decide), ux_i _ _ _ (by decide), h78] at e2
    have f1 : FA N M1 := by rw [e1]; exact FA_u (FA_u hF _ (by decide)) _ (by decide)
    have fin : ∀ d : Int, (q + d = if z = 0 then q + 1 else q + 2) → ∀ M2, M2 = ux_ M1 0 78 (v2 + d) → Q 0 M2 := fun d hd M2 e => hq M2 (by rw [e]; exact FA_u f1 _ (by decide)) (by rw [e, ux_s, e2]; exact hd) (by rw [e, e1, ux_i _ _ _ (by decide), ux_i _ _ _ (by decide), ux_i _ _ _ (by decide), h79]) (by rw [e, e1, ux_i _ _ _ (by decide), ux_i _ _ _ (by decide), ux_s]) (by rw [e, e1, ux_i _ _ _ (by decide), ux_s]; exact hw)
    exact ⟨fun a => ⟨by unfold ri_; omega, fin 1 (by rw [if_pos a])⟩, fun a => ⟨by unfold ri_; omega, fin 2 (by rw [if_neg a])⟩⟩
  unfold w_X12_advance_b461
  intro M1 e1
  rw [e1]
  exact ⟨fun a => g x (by rw [if_pos a]), fun a => g _ (by rw [if_neg a])⟩
/-- the loop over a name -/
theorem p_R88 {Q : Int → MM → Prop} {N M : MM} {s : Int → Int} {n q e : Int} (n4 : n ≤ 4000) (h3 : N 0 3 = n) (hs : ∀ i, 0 ≤ i → i < n → s i = N 1 i % 256) (q0 : 0 ≤ q) (hsp : span isY s n q e) (hF : FA N M) (h78 : M 0 78 = q) (h79 : M 0 79 = q) (h85 : M 0 85 = 0) (hq : ∀ N', FA N N' → N' 0 78 = e → N' 0 79 = q → N' 0 80 = (if e - q ≤ 10 then 1 else 4) → (e - q ≤ 10 → N' 0 85 = fr f63 s q 0 (e - q).toNat) → Q 0 N') : w_X12_advance_b88 Q M := by
  obtain ⟨p1, p2, p3, p4⟩ := hsp
  unfold w_X12_advance_b88
  refine lpM _ (fun M => ∃ b : Int, FA N M ∧ M 0 78 = b ∧ M 0 79 = q ∧ q ≤ b ∧ b ≤ e ∧ (b - q ≤ 10 → M 0 85 = fr f63 s q 0 (b - q).toNat)) (fun M => (e - M 0 78).toNat) ?_ _ ⟨q, hF, h78, h79, by omega, p1, fun _ => by rw [h85, fr_0]⟩
  rintro M f ⟨b, hF, m78, m79, b0, b1, m85⟩ ih
  have m3 : M 0 3 = n := by rw [hF.2 3 (by decide), h3]
  have ms : ∀ i, 0 ≤ i → i < n → s i = M 1 i % 256 := fun i a c => by rw [hF.1 1 (by decide)]; exact hs i a c
  have fin : b = e → ∀ v13, v13 = M 0 78 → ri_ v13 → ∀ v14, v14 = M 0 79 → ri_ v14 → ri_ (v13 - v14) ∧ ((v13 - v14 ≤ 10 → w_X12_advance_b192 Q 1 M) ∧ (¬ v13 - v14 ≤ 10 → w_X12_advance_b192 Q 4 M)) := fun be v13 e13 _ v14 e14 _ => by
    rw [m78] at e13
    rw [m79] at e14
    unfold w_X12_advance_b192
    refine ⟨by unfold ri_; omega, fun z M1 g1 => ?_, fun z M1 g1 => ?_⟩
    · exact hq M1 (by rw [g1]; exact FA_u hF _ (by decide)) (by rw [g1, ux_i _ _ _ (by decide), m78, be]) (by rw [g1, ux_i _ _ _ (by decide), m79]) (by rw [g1, ux_s, if_pos (by omega)]) (fun _ => by rw [g1, ux_i _ _ _ (by decide), m85 (by omega), be])
    · exact hq M1 (by rw [g1]; exact FA_u hF _ (by decide)) (by rw [g1, ux_i _ _ _ (by decide), m78, be]) (by rw [g1, ux_i _ _ _ (by decide), m79]) (by rw [g1, ux_s, if_neg (by omega)]) (fun y => absurd y (by omega))
  have on : b < e → w_X12_advance_b116 Q f M := fun be => by
    have sb : 0 ≤ s b ∧ s b < 256 := by rw [ms b (by omega) (by omega)]; omega
    have g156 : ∀ w, (b + 1 - q ≤ 10 → w = fr f63 s q 0 (b + 1 - q).toNat) → w_X12_advance_b156 Q f w M := fun w hw => by
      unfold w_X12_advance_b156
      intro M1 e1 v2 e2 _
      rw [e1, ux_i _ _ _ (by decide), m78] at e2
      refine ⟨by unfold ri_; omega, fun M4 e4 => ih M4 ⟨b + 1, by rw [e4, e1]; exact FA_u (FA_u hF _ (by decide)) _ (by decide), by rw [e4, ux_s, e2], by rw [e4, e1, ux_i _ _ _ (by decide), ux_i _ _ _ (by decide), m79], by omega, by omega, fun y => by rw [e4, e1, ux_i _ _ _ (by decide), ux_s]; exact hw y⟩ (by rw [e4, ux_s, m78, e2]; omega)⟩
    unfold w_X12_advance_b116
    intro v1 e1 _ v2 e2 _
    rw [m78] at e1
    rw [m79] at e2
    refine ⟨by unfold ri_; omega, fun z => g156 0 (fun y => by omega), fun z v5 e5 _ v6 e6 _ => ?_⟩
    rw [m78] at e6
    refine p_R_byteAt (by omega) m3 n4 ms (fun y => by omega) (fun y _ => p_R_code (by rw [e6]; omega) fun _ => g156 _ (fun y => ?_))
    rw [fr_s _ _ _ _ _ b0, e5, m85 (by omega), e6]
    rfl
  unfold wb_X12_advance_b88
  intro v1 e1 _
  rw [m78] at e1
  refine p_R_byteAt (by omega) m3 n4 ms (fun y _ => p_R_let (fun w => by unfold isA at w; omega) (fun w _ => ⟨fun y2 => absurd rfl y2, fun _ v7 e7 _ => ?_⟩)) (fun y _ => p_R_let (fun w _ => ⟨fun _ => on ?_, fun y2 => absurd y2 (by decide)⟩) (fun w _ => ⟨fun y2 => absurd rfl y2, fun _ v7 e7 _ => ?_⟩))
  · rw [m78] at e7
    exact p_R_byteAt (by omega) m3 n4 ms (fun y _ => p_R_dig (fun w => by unfold isD at w; omega) (fun w _ => ⟨fun _ => fin (by omega), fun y2 => absurd rfl y2⟩)) (fun y => by omega)
  · by_cases be : b = e
    · exact absurd (Or.inl (by rw [← be, ← e1]; exact w)) (p4 (by omega))
    · omega
  · rw [m78] at e7
    refine p_R_byteAt (by omega) m3 n4 ms (fun y2 => by omega) (fun y2 _ => p_R_dig (fun w2 _ => ⟨fun y3 => absurd y3 (by decide), fun _ => on ?_⟩) (fun w2 _ => ⟨fun _ => fin ?_, fun y3 => absurd rfl y3⟩))
    · by_cases be : b = e
      · exact absurd (Or.inr (by rw [← be, ← e7]; exact w2)) (p4 (by omega))
      · omega
    · by_cases be : b = e
      · exact be
      · have := p3 b b0 (by omega)
        rw [e1] at w
        rw [e7] at w2
        rcases this with u | u
        · exact absurd u w
        · exact absurd u w2
/-- the loop over a number -/
theorem p_R205 {Q : Int → MM → Prop} {N M : MM} {s : Int → Int} {n q e : Int} (n4 : n ≤ 4000) (h3 : N 0 3 = n) (hs : ∀ i, 0 ≤ i → i < n → s i = N 1 i % 256) (q0 : 0 ≤ q) (hsp : span isD s n q e) (hF : FA N M) (h78 : M 0 78 = q) (h79 : M 0 79 = q) (h85 : M 0 85 = 0) (hq : ∀ N', FA N N' → N' 0 78 = e → N' 0 79 = q → N' 0 80 = (if e - q ≤ 18 then 2 else 4) → (e - q ≤ 18 → N' 0 85 = fr f10 s q 0 (e - q).toNat) → Q 0 N') : w_X12_advance_b205 Q M := by
  obtain ⟨p1, p2, p3, p4⟩ := hsp
  unfold w_X12_advance_b205
  refine lpM _ (fun M => ∃ b : Int, FA N M ∧ M 0 78 = b ∧ M 0 79 = q ∧ q ≤ b ∧ b ≤ e ∧ (b - q ≤ 18 → M 0 85 = fr f10 s q 0 (b - q).toNat)) (fun M => (e - M 0 78).toNat) ?_ _ ⟨q, hF, h78, h79, by omega, p1, fun _ => by rw [h85, fr_0]⟩
  rintro M f ⟨b, hF, m78, m79, b0, b1, m85⟩ ih
  have m3 : M 0 3 = n := by rw [hF.2 3 (by decide), h3]
  have ms : ∀ i, 0 ≤ i → i < n → s i = M 1 i % 256 := fun i a c => by rw [hF.1 1 (by decide)]; exact hs i a c
  have fin : b = e → ∀ v13, v13 = M 0 78 → ri_ v13 → ∀ v14, v14 = M 0 79 → ri_ v14 → ri_ (v13 - v14) ∧ ((v13 - v14 ≤ 18 → w_X12_advance_b296 Q 2 M) ∧ (¬ v13 - v14 ≤ 18 → w_X12_advance_b296 Q 4 M)) := fun be v13 e13 _ v14 e14 _ => by
    rw [m78] at e13
    rw [m79] at e14
    unfold w_X12_advance_b296
    refine ⟨by unfold ri_; omega, fun z M1 g1 => ?_, fun z M1 g1 => ?_⟩
    · exact hq M1 (by rw [g1]; exact FA_u hF _ (by decide)) (by rw [g1, ux_i _ _ _ (by decide), m78, be]) (by rw [g1, ux_i _ _ _ (by decide), m79]) (by rw [g1, ux_s, if_pos (by omega)]) (fun _ => by rw [g1, ux_i _ _ _ (by decide), m85 (by omega), be])
    · exact hq M1 (by rw [g1]; exact FA_u hF _ (by decide)) (by rw [g1, ux_i _ _ _ (by decide), m78, be]) (by rw [g1, ux_i _ _ _ (by decide), m79]) (by rw [g1, ux_s, if_neg (by omega)]) (fun y => absurd y (by omega))
  have g260 : b < e → ∀ w, (b + 1 - q ≤ 18 → w = fr f10 s q 0 (b + 1 - q).toNat) → w_X12_advance_b260 Q f w M := fun be w hw => by
    unfold w_X12_advance_b260
    intro M1 e1 v2 e2 _
    rw [e1, ux_i _ _ _ (by decide), m78] at e2
    refine ⟨by unfold ri_; omega, fun M4 e4 => ih M4 ⟨b + 1, by rw [e4, e1]; exact FA_u (FA_u hF _ (by decide)) _ (by decide), by rw [e4, ux_s, e2], by rw [e4, e1, ux_i _ _ _ (by decide), ux_i _ _ _ (by decide), m79], by omega, by omega, fun y => by rw [e4, e1, ux_i _ _ _ (by decide), ux_s]; exact hw y⟩ (by rw [e4, ux_s, m78, e2]; omega)⟩
  unfold wb_X12_advance_b205
  intro v1 e1 _
  rw [m78] at e1
  refine p_R_byteAt (by omega) m3 n4 ms (fun y _ => p_R_dig (fun w => by unfold isD at w; omega) (fun w _ => ⟨fun _ => fin (by omega), fun y2 => absurd rfl y2⟩)) (fun y _ => p_R_dig (fun w _ => ⟨fun y2 => absurd y2 (by decide), fun _ v11 e11 _ v12 e12 _ => ?_⟩) (fun w _ => ⟨fun _ => fin ?_, fun y2 => absurd rfl y2⟩))
  · have be : b < e := by
      by_cases be : b = e
      · exact absurd (by rw [← be, ← e1]; exact w) (p4 (by omega))
      · omega
    rw [m78] at e11
    rw [m79] at e12
    refine ⟨by unfold ri_; omega, fun z => g260 be 0 (fun y => by omega), fun z v15 e15 _ v16 e16 _ => ?_⟩
    rw [m78] at e16
    refine p_R_byteAt (by omega) m3 n4 ms (fun y => by omega) (fun y _ => g260 be _ (fun y => ?_))
    rw [fr_s _ _ _ _ _ b0, e15, m85 (by omega), e16]
    unfold f10
    rw [Int.mul_comm]
  · by_cases be : b = e
    · exact be
    · have := p3 b b0 (by omega)
      rw [e1] at w
      exact absurd this w
