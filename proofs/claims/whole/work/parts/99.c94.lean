/-! all that stands between two calls -/
def Ral (i : Int) (C R : MM) : Prop := RD C R ∧ Kd R ∧ Rgw C R ∧ Rft C R ∧ Rlg C R ∧ Ran C R ∧ Rpr C R ∧ Rru C R ∧ SXq (90003 * i) C ∧ C 36 1 ≤ 4100 * i ∧ nr (C 261 1) 2877 ∧ nr (C 261 2) 12184058 ∧ KWn C
theorem m_gw {C R C' R' : MM} (h : Rgw C R) (c0 : C' 0 15 = C 0 15) (c : C' 285 = C 285) (r0 : R' 0 75 = R 0 75) (r : R' 63 = R 63) : Rgw C' R' := by
  unfold Rgw at h ⊢; rw [c0, c, r0, r]; exact h
theorem m_ft {C R C' R' : MM} (h : Rft C R) (a : C' 0 16 = C 0 16) (b : C' 0 17 = C 0 17) (c : R' 0 81 = R 0 81) (d : R' 0 82 = R 0 82) : Rft C' R' := by
  unfold Rft at h ⊢; rw [a, b, c, d]; exact h
theorem m_an {C R C' R' : MM} (h : Ran C R) (a : C' 219 20 = C 219 20) (c : ∀ k, k = 232 ∨ k = 233 ∨ k = 234 → C' k = C k) (b : R' 0 110 = R 0 110) (r : ∀ k, k = 75 ∨ k = 76 ∨ k = 77 → R' k = R k) : Ran C' R' := by
  unfold Ran at h ⊢; rw [a, b, c 232 (by omega), c 233 (by omega), c 234 (by omega), r 75 (by omega), r 76 (by omega), r 77 (by omega)]; exact h
theorem m_ru {C R C' R' : MM} (h : Rru C R) (a : C' 261 16 = C 261 16) (b : C' 274 1 = C 274 1) (c : C' 273 = C 273) (d : C' 275 = C 275) (e : R' 0 133 = R 0 133) (r : ∀ k, k = 83 ∨ k = 94 ∨ k = 95 → R' k = R k) : Rru C' R' := by
  unfold Rru FcR at h ⊢; rw [a, b, c, d, e, r 83 (by omega), r 94 (by omega), r 95 (by omega)]; exact h
theorem m_sx {C C' : MM} {B B' : Int} (h : SXq B C) (hB : B ≤ B') (c : ∀ k, k = 223 ∨ k = 230 ∨ k = 231 → C' k = C k) : SXq B' C' := fun f a b => by
  obtain ⟨x1, x2, x3, x4⟩ := h f a b
  rw [c 223 (by omega), c 230 (by omega), c 231 (by omega)]
  exact ⟨x1, by omega, x3, x4⟩
theorem m_kw {C C' : MM} (h : KWn C) (a : C' 7 = C 7) (b : C' 261 1 = C 261 1) (c : C' 261 2 = C 261 2) : KWn C' := by
  unfold KWn at h ⊢; rw [a, b, c]; exact h
theorem m_kd {R R' : MM} (h : Kd R) (a : R' 3 = R 3) : Kd R' := by
  unfold Kd at h ⊢; rw [a]; exact h
theorem m_lg {C R C' R' R0 R1 : MM} (h : Rlg C R) (hY : Rty C R0) (hY' : Rty C' R1) (tl : tyLe C C') (c4 : C' 280 4 = C 280 4) (c5 : C' 280 5 = C 280 5) (c : C' 282 = C 282) (r : ∀ k, k = 99 ∨ k = 102 → R' k = R k) (r8 : R' 0 148 = R 0 148) (r9 : R' 0 149 = R 0 149) : Rlg C' R' := by
  have el : ∀ a, lnL C' a = lnL C a := fun a => by unfold lnL; rw [c]
  have eb : ∀ a, bL C' a = bL C a := fun a => funext fun i => by unfold bL; rw [el, c]
  obtain ⟨h1, h2, h3, h4, h5, h6, h7, ps, p1, p2, p3⟩ := h
  refine ⟨by rw [c4, r8]; exact h1, by rw [c5, r9]; exact h2, by rw [c5]; exact h3, by rw [c4, c5]; exact h4, by rw [c4]; exact h5, by rw [c4, c, r 99 (by omega)]; exact h6, by rw [r 99 (by omega)]; exact h7, ps, p1, by rw [c4, c5]; exact p2, fun k hk => ?_⟩
  rw [c5] at hk
  obtain ⟨q1, q2, q3, q4, q5, q6⟩ := p3 k hk
  rw [r 102 (by omega), el, eb, c4]
  exact ⟨q1, q2, q3, q4, q5, (Gd_le hY hY' tl q6).1⟩
/-- what most calls leave alone -/
def Lv (C C' R R' : MM) : Prop := (∀ k, k = 7 ∨ k = 219 ∨ k = 223 ∨ 230 ≤ k ∧ k ≤ 261 ∨ 273 ≤ k ∧ k ≤ 275 ∨ k = 282 ∨ k = 285 → C' k = C k) ∧ (∀ i, i = 10 ∨ i = 15 ∨ i = 16 ∨ i = 17 → C' 0 i = C 0 i) ∧ C' 280 4 = C 280 4 ∧ C' 280 5 = C 280 5 ∧ (∀ k, k = 3 ∨ k = 63 ∨ 66 ≤ k ∧ k ≤ 70 ∨ 75 ≤ k ∧ k ≤ 79 ∨ k = 83 ∨ k = 94 ∨ k = 95 ∨ k = 99 ∨ k = 102 → R' k = R k) ∧ ∀ i, i = 75 ∨ i = 81 ∨ i = 82 ∨ i = 110 ∨ i = 113 ∨ i = 114 ∨ i = 133 ∨ i = 148 ∨ i = 149 → R' 0 i = R 0 i
theorem Ral_fr {i : Int} {C R C' R' : MM} (h : Ral i C R) (hD : RD C' R') (tl : tyLe C C') (hL : Lv C C' R R') (c36 : C' 36 1 ≤ 4100 * (i + 1)) : Ral (i + 1) C' R' := by
  obtain ⟨h1, h2, h3, h4, h5, h6, h7, h8, h9, h10, h11, h12, h13⟩ := h
  obtain ⟨c, c0, c4, c5, r, r0⟩ := hL
  have e261 := c 261 (by omega)
  refine ⟨hD, m_kd h2 (r 3 (by omega)), m_gw h3 (c0 15 (by omega)) (c 285 (by omega)) (r0 75 (by omega)) (r 63 (by omega)), m_ft h4 (c0 16 (by omega)) (c0 17 (by omega)) (r0 81 (by omega)) (r0 82 (by omega)), m_lg h5 h1.1.1.2.2.2.2 hD.1.1.2.2.2.2 tl c4 c5 (c 282 (by omega)) (fun k hk => r k (by omega)) (r0 148 (by omega)) (r0 149 (by omega)), m_an h6 (by rw [c 219 (by omega)]) (fun k hk => c k (by omega)) (r0 110 (by omega)) (fun k hk => r k (by omega)), Rpr_fr h7 (c0 10 (by omega)) (fun q a b => c q (by omega)) (fun j i a b _ => by rw [r j (by omega)]) (r 78 (by omega)) (r 79 (by omega)) (r0 113 (by omega)) (r0 114 (by omega)), m_ru h8 (by rw [e261]) (by rw [c 274 (by omega)]) (c 273 (by omega)) (c 275 (by omega)) (r0 133 (by omega)) (fun k hk => r k (by omega)), m_sx h9 (by omega) (fun k hk => c k (by omega)), c36, by rw [e261]; exact h11, by rw [e261]; exact h12, m_kw h13 (c 7 (by omega)) (by rw [e261]) (by rw [e261])⟩
theorem n_00 {i : Int} {C R : MM} (h : Ral i C R) (x : Int) : Ral (i + 1) C (ux_ R 0 0 x) := Ral_fr h (RD_00 h.1 x) (tyLe_of rfl (fun _ _ _ => rfl)) ⟨fun _ _ => rfl, fun _ _ => rfl, rfl, rfl, fun k hk => ux_g _ _ _ (by omega), fun i hi => ux_i _ _ _ (by omega)⟩ (by have := h.2.2.2.2.2.2.2.2.2.1; omega)
/-- the tape's calls -/
theorem n_tp {i : Int} {C R C' R' : MM} (h : Ral i C R) (ht : Rtape C' R') (bb : BB R') (c : ∀ k, k ≠ 1 → k ≠ 2 → k ≠ 3 → C' k = C k) (r : ∀ k, k ≠ 0 → k ≠ 1 → k ≠ 2 → R' k = R k) (r0 : ∀ i, i ≠ 0 → i ≠ 3 → R' 0 i = R 0 i) : Ral (i + 1) C' R' := by
  refine Ral_fr h (RD_tp h.1 ht bb.1 bb.2 (fun k a b => c k (by omega) (by omega) (by omega)) (by rw [c 0 (by decide) (by decide) (by decide)]) (fun k a b => r k (by omega) (by omega) (by omega)) (fun i hi => r0 i (by simp only [List.mem_cons, List.not_mem_nil, or_false] at hi; omega) (by simp only [List.mem_cons, List.not_mem_nil, or_false] at hi; omega))) (tyLe_of (by rw [c 8 (by decide) (by decide) (by decide)]) (fun k a b => c k (by omega) (by omega) (by omega))) ⟨fun k hk => c k (by omega) (by omega) (by omega), fun i _ => by rw [c 0 (by decide) (by decide) (by decide)], by rw [c 280 (by decide) (by decide) (by decide)], by rw [c 280 (by decide) (by decide) (by decide)], fun k hk => r k (by omega) (by omega) (by omega), fun i hi => r0 i (by omega) (by omega)⟩ ?_
  rw [c 36 (by decide) (by decide) (by decide)]
  have := h.2.2.2.2.2.2.2.2.2.1; omega
theorem Ral_B {i : Int} {C R : MM} (h : Ral i C R) : Rtape C R ∧ BB R := ⟨h.1.1.1.1, h.1.1.1.2.1, h.1.1.1.2.2.1⟩
theorem n_wipe {i : Int} {C R C' R' : MM} (h : Ral i C R) (ht : Rtape C' R') (c : FTpc C C') (r : FTpr R R') : Ral (i + 1) C' R' := n_tp h ht (BB_e (Ral_B h).2 (r.1 1 (by decide)) (r.1 2 (by decide))) (fun k a _ _ => c.1 k a) (fun k a _ _ => r.1 k a) r.2
theorem n_feed {i : Int} {C R C' R' : MM} (h : Ral i C R) (ht : Rtape C' R') (c : ∀ k i, k ≠ 3 → C' k i = C k i) (r : ∀ k i, (k ≠ 2 ∧ ¬ (k = 0 ∧ i = 0)) → R' k i = R k i) (b : ∀ i, -128 ≤ R' 2 i ∧ R' 2 i ≤ 127) : Ral (i + 1) C' R' := n_tp h ht ⟨by rw [show R' 1 = R 1 from funext fun j => r 1 j (by omega)]; exact (Ral_B h).2.1, b⟩ (fun k _ _ a => funext fun j => c k j a) (fun k a _ e => funext fun j => r k j (by omega)) (fun i a _ => r 0 i (by omega))
theorem n_end {i : Int} {C R C' R' : MM} (h : Ral i C R) (ht : Rtape C' R') (c : ∀ k i, (k ≠ 2 ∧ k ≠ 3 ∧ ¬ (k = 1 ∧ i = 1)) → C' k i = C k i) (r : ∀ k i, (k ≠ 1 ∧ k ≠ 2 ∧ ¬ (k = 0 ∧ (i = 0 ∨ i = 3))) → R' k i = R k i) (b : BB R') : Ral (i + 1) C' R' := n_tp h ht b (fun k a b d => funext fun j => c k j (by omega)) (fun k a b d => funext fun j => r k j (by omega)) (fun i a b => r 0 i (by omega))
theorem n_flip {i : Int} {C R C' R' : MM} (h : Ral i C R) (ht : Rtape C' R') (c : ∀ k i, k ≠ 2 → C' k i = C k i) (r : ∀ k i, (k ≠ 1 ∧ ¬ (k = 0 ∧ i = 0)) → R' k i = R k i) (b : BB R') : Ral (i + 1) C' R' := n_tp h ht b (fun k _ a _ => funext fun j => c k j a) (fun k a b d => funext fun j => r k j (by omega)) (fun i a b => r 0 i (by omega))
