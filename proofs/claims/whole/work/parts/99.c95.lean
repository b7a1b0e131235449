/-! what stands between two calls: classes, fields, things -/
theorem Ral_6 {i : Int} {C R : MM} (h : Ral i C R) : C 36 1 ≤ 4100 * (i + 1) := by have := h.2.2.2.2.2.2.2.2.2.1; omega
/-- heap, journal and pictures out of what the heap's calls tell -/
theorem RD_hp {C R C' R' : MM} (h : RD C R) (hB : RB C' R') (hJ : Rjn C' R') (tl : tyLe C C') (e : ∀ q, 45 ≤ q → q ≤ 210 → C' q = C q) (e0 : C' 0 5 = C 0 5) (r : ∀ k, 38 ≤ k → k ≤ 59 → R' k = R k) : RD C' R' := ⟨hB, hJ, ps_fr h.1.1.2.2.2.2 h.2.2 tl e e0 r⟩
theorem n_ty {i : Int} {C R C' R' : MM} (h : Ral i C R) (hA : RA C' R') (hL : Rlk C → Rlk C') (tl : tyLe C C') (hF : Fst C C') (hS : Rst C' R') (c : ∀ k i, 26 ≤ k → k ≠ 32 → C' k i = C k i) (c0 : ∀ i, C' 0 i = C 0 i) (c7 : C' 7 = C 7) (r : ∀ k i, 19 ≤ k → R' k i = R k i) (r0 : ∀ i, i ≠ 0 → i ≠ 3 → i ≠ 20 → R' 0 i = R 0 i) (r3 : R' 3 = R 3) : Ral (i + 1) C' R' := by
  have hB := h.1.1
  have hY := hB.1.2.2.2.2
  have ck : ∀ k, 26 ≤ k → k ≠ 32 → C' k = C k := fun k a b => funext fun i => c k i a b
  have rk : ∀ k, 19 ≤ k → R' k = R k := fun k a => funext fun i => r k i a
  obtain ⟨hH, hl⟩ := hp_ty hY hB.2.2 tl hF c hS (fun k hk => rk k (by simp only [List.mem_cons, List.not_mem_nil, or_false] at hk; omega)) (fun i hi => by simp only [List.mem_cons, List.not_mem_nil, or_false] at hi; exact r0 i (by omega) (by omega) (by omega))
  have hJ := le_jn hY hB.2.2 hl h.1.2.1 (fun k a b => ck k (by omega) (by omega)) (fun k a b => rk k (by omega)) (fun i hi => by simp only [List.mem_cons, List.not_mem_nil, or_false] at hi; exact r0 i (by omega) (by omega) (by omega))
  refine Ral_fr h (RD_hp h.1 ⟨hA, hL hB.2.1, hH⟩ hJ tl (fun q a b => ck q (by omega) (by omega)) (c0 5) (fun k a b => rk k (by omega))) tl ⟨fun k hk => ?_, fun i _ => c0 i, by rw [ck 280 (by decide) (by decide)], by rw [ck 280 (by decide) (by decide)], fun k hk => ?_, fun i hi => r0 i (by omega) (by omega) (by omega)⟩ (by rw [ck 36 (by decide) (by decide)]; exact Ral_6 h)
  · by_cases e : k = 7
    · rw [e]; exact c7
    · exact ck k (by omega) (by omega)
  · by_cases e : k = 3
    · rw [e]; exact r3
    · exact rk k (by omega)
theorem n_type {i : Int} {C R C' R' : MM} (h : Ral i C R) (hA : RA C' R') (c : FC C C') (r : FR R R') (c7 : C' 7 = C 7) (r3 : R' 3 = R 3) : Ral (i + 1) C' R' := by
  have hs : Rst C R := h.1.1.2.2.2.2.2.2.2.2.2.2.2.2.2.2.1
  have hY := h.1.1.1.2.2.2.2
  refine n_ty h hA c.2.2.2 c.2.2.1 (fun d k d0 d1 k0 k1 => ?_) (fun f f0 f1 => by rw [c.1 32 f (by decide), r.2.2 f]; exact hs f f0 f1) (fun k i a _ => c.1 k i a) (fun i => (c.2.1 i).1) c7 r.1 r.2.1 r3
  rw [(c.2.1 d).2] at k1
  by_cases y : d < C 8 0
  · exact Or.inl ⟨y, k1, c.1 32 _ (by decide)⟩
  · have z := (hA.2.2.2.2).2.2.1
    have := (hY.2.2.2.2.1 d (by omega) (by omega)).2.2.2.1
    omega
theorem n_field {i : Int} {C R C' R' : MM} (h : Ral i C R) (hA : RA C' R') (c : FC2 C C') (r : FR2 R R') (hS : Rst C R → Rst C' R') (c7 : C' 7 = C 7) (r3 : R' 3 = R 3) : Ral (i + 1) C' R' := n_ty h hA c.2.2.2.1 c.2.2.1 c.2.2.2.2 (hS h.1.1.2.2.2.2.2.2.2.2.2.2.2.2.2.2.1) c.1 c.2.1 c7 r.1 r.2 r3
/-- calls that touch the heap alone -/
theorem n_hp {i : Int} {C R C' R' : MM} (h : Ral i C R) (hB : RB C' R') (hJ : Rjn C' R') (tl : tyLe C C') (c : ∀ k, k ∉ [12, 13, 26, 27, 28, 29, 30, 31, 32, 33, 34, 35, 36, 40, 41, 42] → C' k = C k) (c36 : C' 36 1 = C 36 1) (r : ∀ k, k ∉ [0, 6, 16, 18, 19, 20, 21, 22, 23, 24, 29, 30, 31, 36, 37] → R' k = R k) (r0 : ∀ i, i ∉ ([0, 26, 27, 28, 31, 36, 44, 47] : List Int) → R' 0 i = R 0 i) : Ral (i + 1) C' R' := by
  have ck : ∀ k, k = 0 ∨ k = 7 ∨ 45 ≤ k → C' k = C k := fun k hk => c k (by simp only [List.mem_cons, List.not_mem_nil, or_false, not_or]; omega)
  have rk : ∀ k, k = 3 ∨ 38 ≤ k → R' k = R k := fun k hk => r k (by simp only [List.mem_cons, List.not_mem_nil, or_false, not_or]; omega)
  exact Ral_fr h (RD_hp h.1 hB hJ tl (fun q a b => ck q (by omega)) (by rw [ck 0 (by omega)]) (fun k a b => rk k (by omega))) tl ⟨fun k hk => ck k (by omega), fun i _ => by rw [ck 0 (by omega)], by rw [ck 280 (by omega)], by rw [ck 280 (by omega)], fun k hk => rk k (by omega), fun i hi => r0 i (by simp only [List.mem_cons, List.not_mem_nil, or_false, not_or]; omega)⟩ (by rw [c36]; exact Ral_6 h)
theorem n_apart {i : Int} {C R C' R' : MM} {c b : Int} (h : Ral i C R) (hp : (C' = C ∧ R' = ux_ R 0 0 0) ∨ (0 ≤ c ∧ c < C 8 0 ∧ C' = ux_ C 13 c b ∧ R' = ux_ (ux_ R 0 0 0) 18 c b)) : Ral (i + 1) C' R' := by
  rcases hp with ⟨e1, e2⟩ | ⟨c0, c1, e1, e2⟩
  · rw [e1, e2]; exact n_00 h 0
  · have hB := h.1.1
    have hY := hB.1.2.2.2.2
    have ck : ∀ k, k ≠ 13 → C' k = C k := fun k hk => by rw [e1, ux_g _ _ _ hk]
    have rk : ∀ k, k ≠ 0 → k ≠ 18 → R' k = R k := fun k a b => by rw [e2, ux_g _ _ _ b, ux_g _ _ _ a]
    have ri : ∀ i, i ≠ 0 → R' 0 i = R 0 i := fun i a => by rw [e2, ux_g _ _ _ (by decide), ux_i _ _ _ a]
    have hY' : Rty C' R' := by rw [e1, e2]; exact Rty_13 hY c1
    have le : hpLe C C' := hpLe_e (fun k _ _ a => ck k a) (by rw [ck 26 (by decide)]) (fun k hk => ck k (by simp only [List.mem_cons, List.not_mem_nil, or_false] at hk; omega))
    refine n_hp h ⟨⟨?_, by rw [rk 1 (by decide) (by decide)]; exact hB.1.2.1, by rw [rk 2 (by decide) (by decide)]; exact hB.1.2.2.1, ?_, hY'⟩, ?_, ?_⟩ (le_jn hY hB.2.2 le h.1.2.1 (fun k a b => ck k (by omega)) (fun k a b => rk k (by omega) (by omega)) (fun i hi => ri i (by simp only [List.mem_cons, List.not_mem_nil, or_false] at hi; omega))) le.1 (fun k hk => ck k (by simp only [List.mem_cons, List.not_mem_nil, or_false, not_or] at hk; omega)) (by rw [ck 36 (by decide)]) (fun k hk => by simp only [List.mem_cons, List.not_mem_nil, or_false, not_or] at hk; exact rk k (by omega) (by omega)) (fun i hi => by simp only [List.mem_cons, List.not_mem_nil, or_false, not_or] at hi; exact ri i (by omega))
    · have t := hB.1.1
      unfold Rtape at t ⊢
      rw [ck 1 (by decide), ck 2 (by decide), ck 3 (by decide), rk 1 (by decide) (by decide), rk 2 (by decide) (by decide), ri 3 (by decide)]
      exact t
    · have t := hB.1.2.2.2.1
      unfold Rkey at t ⊢
      rw [ck 7 (by decide), rk 3 (by decide) (by decide)]
      exact t
    · have t := hB.2.1
      unfold Rlk at t ⊢
      rw [ck 8 (by decide), ck 14 (by decide), ck 19 (by decide), ck 20 (by decide)]
      exact t
    · exact (hp_ty hY hB.2.2 le.1 (fun d k d0 d1 k0 k1 => Or.inl ⟨by rw [← ck 8 (by decide)]; exact d1, by rw [← ck 14 (by decide)]; exact k1, by rw [ck 32 (by decide)]⟩) (fun k i a _ => by rw [ck k (by omega)]) (fun f f0 f1 => by rw [ck 32 (by decide), rk 6 (by decide) (by decide)]; exact hB.2.2.2.2.2.2.2.2.2.2.2.2.2.2.1 f f0 f1) (fun k hk => by simp only [List.mem_cons, List.not_mem_nil, or_false] at hk; exact rk k (by omega) (by omega)) (fun i hi => by simp only [List.mem_cons, List.not_mem_nil, or_false] at hi; exact ri i (by omega))).1
