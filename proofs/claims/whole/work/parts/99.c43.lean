/-! what a promise sees: the fifth picture as the class has it -/
def pvq (R M : MM) (c : Nat) : MM := fun k i => if k = 38 then M c 0 else if k = 39 then M (c + 1) (i - 1600) else if k = 40 then M (c + 2) (i - 1600) else if k = 41 then M (c + 3) (i - 1600) else if k = 42 then M (c + 4) (i - 1600) else if k = 43 then M (c + 5) (i - 1600) else if k = 47 then M (c + 23) (i - 1600) else if k = 55 then M c 11 else if k = 56 then M (c + 11) (i - 512) else if k = 57 then M (c + 12) (i - 512) else if k = 58 then M (c + 9) (i - 16000) else R k i
theorem pvq_k {R M : MM} {c k : Nat} (h : k < 38 ∨ 58 < k) : pvq R M c k = R k := funext fun i => by
  unfold pvq
  rw [if_neg (by omega), if_neg (by omega), if_neg (by omega), if_neg (by omega), if_neg (by omega), if_neg (by omega), if_neg (by omega), if_neg (by omega), if_neg (by omega), if_neg (by omega), if_neg (by omega)]
theorem pvq_v {R M : MM} {c : Nat} : (∀ i, pvq R M c 38 i = M c 0) ∧ (∀ t, pvq R M c 39 (400 * 4 + t) = M (c + 1) t) ∧ (∀ t, pvq R M c 40 (400 * 4 + t) = M (c + 2) t) ∧ (∀ t, pvq R M c 41 (400 * 4 + t) = M (c + 3) t) ∧ (∀ t, pvq R M c 42 (400 * 4 + t) = M (c + 4) t) ∧ (∀ t, pvq R M c 43 (400 * 4 + t) = M (c + 5) t) ∧ (∀ t, pvq R M c 47 (400 * 4 + t) = M (c + 23) t) ∧ (∀ i, pvq R M c 55 i = M c 11) ∧ (∀ t, pvq R M c 56 (128 * 4 + t) = M (c + 11) t) ∧ (∀ t, pvq R M c 57 (128 * 4 + t) = M (c + 12) t) ∧ (∀ t, pvq R M c 58 (4000 * 4 + t) = M (c + 9) t) := by
  have a : ∀ t : Int, 400 * 4 + t - 1600 = t := fun t => by omega
  have b : ∀ t : Int, 128 * 4 + t - 512 = t := fun t => by omega
  have d : ∀ t : Int, 4000 * 4 + t - 16000 = t := fun t => by omega
  refine ⟨fun _ => rfl, fun t => ?_, fun t => ?_, fun t => ?_, fun t => ?_, fun t => ?_, fun t => ?_, fun _ => rfl, fun t => ?_, fun t => ?_, fun t => ?_⟩
  · show M (c + 1) (400 * 4 + t - 1600) = _; rw [a]
  · show M (c + 2) (400 * 4 + t - 1600) = _; rw [a]
  · show M (c + 3) (400 * 4 + t - 1600) = _; rw [a]
  · show M (c + 4) (400 * 4 + t - 1600) = _; rw [a]
  · show M (c + 5) (400 * 4 + t - 1600) = _; rw [a]
  · show M (c + 23) (400 * 4 + t - 1600) = _; rw [a]
  · show M (c + 11) (128 * 4 + t - 512) = _; rw [b]
  · show M (c + 12) (128 * 4 + t - 512) = _; rw [b]
  · show M (c + 9) (4000 * 4 + t - 16000) = _; rw [d]
theorem pvq_R (R M : MM) (c : Nat) : Rpb M (pvq R M c) c 4 := by
  obtain ⟨v1, v2, v3, v4, v5, v6, v7, v8, v9, v10, v11⟩ := @pvq_v R M c
  refine ⟨(v1 4).symm, fun t _ _ => ⟨(v2 t).symm, (v3 t).symm, (v4 t).symm, (v5 t).symm⟩, fun t k _ _ _ _ => (v11 _).symm, (v8 4).symm, fun r _ _ => ⟨(v9 r).symm, (v10 r).symm⟩⟩
theorem so_Y {M M0 R : MM} (hY : Rty M R) (hY0 : Rty M0 R) {t n : Int} (hv : vT (M 8 0) t) : so M0 t n = so M t n := by
  unfold so
  by_cases z : 20 ≤ t
  · rw [if_pos z, if_pos z]
  · rw [if_neg z, if_neg z]
    unfold vT at hv
    have h8 := hY.1
    have h80 := hY0.1
    have h16 := hY.2.2.1
    have a := (hY.2.2.2.1 t (by omega) (by omega)).1.2.2.2.2.2.2.2.2.2.2.1
    have b := (hY0.2.2.2.1 t (by omega) (by omega)).1.2.2.2.2.2.2.2.2.2.2.1
    rw [a, b]
theorem pvq_B {R M R' N : MM} {c : Nat} {lo hi f : Int} (e : ∀ k, 4 ≤ k → k ≤ 18 → k ≠ 6 → R' k = R k) (e20 : R' 0 20 = R 0 20) (hY : Rty M R) (hw : PW M c) (hb : Rpb M R' c 4) (h43 : ∀ t, 0 ≤ t → t < M c 0 → R' 43 (400 * 4 + t) = M (c + 5) t) (h47 : f = 1 → ∀ t, 0 ≤ t → t < M c 0 → R' 47 (400 * 4 + t) = M (c + 23) t) (hn : ∀ j i, 66 ≤ j → j ≤ 70 → lo ≤ i → i < hi → R' j i = N j i) : RB0 4 (vw (pvq R M c) N lo hi f) (ux_ R' 0 97 4) := by
  obtain ⟨v1, v2, v3, v4, v5, v6, v7, v8, v9, v10, v11⟩ := @pvq_v R M c
  refine vw_B (fun k a b d => by rw [e k a b d, pvq_k (by omega)]) (by rw [e20, pvq_k (by omega)]) (fun M0 pc hy _ hb0 => ?_) hn
  obtain ⟨b1, b2, b3, b4, b5⟩ := hb
  obtain ⟨c1, c2, c3, c4, c5⟩ := hb0
  rw [v1] at c1
  rw [v8] at c4
  have hy' : Rty M0 R := Rty_R hy (fun k a b _ => (pvq_k (by omega)).symm) (by rw [pvq_k (by omega)])
  refine ⟨⟨by rw [c1]; exact b1, fun t t0 t1 => ?_, fun t k t0 t1 k0 k1 => ?_, by rw [c4]; exact b4, fun r r0 r1 => ?_⟩, fun t t0 t1 => ⟨by rw [v6]; exact h43 t t0 (by omega), fun z => by rw [v7]; exact h47 z t t0 (by omega)⟩⟩
  · obtain ⟨d1, d2, d3, d4⟩ := c2 t t0 t1
    rw [d1, d2, d3, d4, v2, v3, v4, v5]
    exact b2 t t0 (by omega)
  · obtain ⟨d1, d2, d3, d4⟩ := c2 t t0 t1
    rw [v3] at d2
    rw [v4] at d3
    rw [v5] at d4
    rw [c3 t k t0 t1 k0 k1, v11, d4]
    refine b3 t k t0 (by omega) k0 ?_
    have : pcn M0 pc t = pcn M c t := by
      unfold pcn
      rw [d2, d3]
      exact so_Y hY hy' (hw.2.2.2.1 t t0 (by omega)).2.2.1
    omega
  · obtain ⟨d1, d2⟩ := c5 r r0 r1
    rw [d1, d2, v9, v10]
    exact b5 r r0 (by omega)
