/-! the heap grows: what was there stays as it was -/
def hpLe (C C' : MM) : Prop := tyLe C C' ∧ ∀ o, hOk C o → hOk C' o ∧ C' 27 o = C 27 o ∧ C' 28 o = C 28 o ∧ C' 29 o = C 29 o
theorem le_heir {C C' R0 : MM} (hY : Rty C R0) (hl : tyLe C C') {t w : Int} (t0 : 0 ≤ t) (t1 : t < C 8 0) (h : heir C t w) : heir C' t w := by
  obtain ⟨m, hm⟩ := h
  exact ⟨m, by rw [(upn_same (C := C) (C' := C') (n := C 8 0) (fun i a b => (hl.2 i a b).2.1) (pOk_of hY).2 (c := t) (by omega) t1 m).1]; exact hm⟩
theorem le_ft {C C' R0 : MM} (hY : Rty C R0) (hl : tyLe C C') {t w : Int} (ht : vT (C 8 0) t) (h : ft C t w) : ft C' t w := by
  have h16 := hY.2.2.1
  unfold vT at ht
  unfold ft at h ⊢
  rcases h with h | h | ⟨a, b, h⟩ | ⟨a, h | ⟨b, h⟩⟩
  · exact Or.inl h
  · exact Or.inr (Or.inl h)
  · exact Or.inr (Or.inr (Or.inl ⟨a, b, le_heir hY hl (by omega) (by omega) h⟩))
  · exact Or.inr (Or.inr (Or.inr ⟨a, Or.inl h⟩))
  · exact Or.inr (Or.inr (Or.inr ⟨a, Or.inr ⟨b, le_heir hY hl (by omega) (by omega) h⟩⟩))
theorem ob_ty {C R : MM} (hH : Rhp C R) {o : Int} (ho : hOk C o) : vT (C 8 0) (C 27 o) ∧ (C 27 o < 20 → C 12 (C 27 o) = 1 ∧ C 28 o = 0) ∧ 0 ≤ C 28 o ∧ C 28 o ≤ 60 := by
  obtain ⟨-, a2, a3, -, a5, a6, -⟩ := (hH.2.2.2.2.2.2.2.2.2.1 o ho.1 ho.2.1).2 ho.2.2
  exact ⟨a2, a3, a5, a6⟩
theorem le_so {C C' R0 : MM} (hY : Rty C R0) (hl : tyLe C C') {t n : Int} (ht : vT (C 8 0) t) (hu : t < 20 → C 12 t = 1) : so C' t n = so C t n := by
  have h16 := hY.2.2.1
  unfold vT at ht
  unfold so
  by_cases z : 20 ≤ t
  · rw [if_pos z, if_pos z]
  · rw [if_neg z, if_neg z]; exact ((hl.2 t (by omega) (by omega)).2.2.1 (hu (by omega))).2.1
theorem le_kA {C C' R0 : MM} (hY : Rty C R0) (hl : tyLe C C') {t s : Int} (ht : vT (C 8 0) t) (hu : t < 20 → C 12 t = 1) (s0 : 0 ≤ s) (s1 : t < 20 → s < C 16 t) : kA C' t s = kA C t s ∧ lA C' t s = lA C t s := by
  have h16 := hY.2.2.1
  unfold vT at ht
  unfold kA lA
  by_cases z : 20 ≤ t
  · by_cases z2 : 29 ≤ t
    · by_cases z3 : 30 ≤ t
      · rw [if_pos z2, if_pos z2, if_pos z3, if_pos z3]; exact ⟨rfl, rfl⟩
      · rw [if_pos z2, if_pos z2, if_neg z3, if_neg z3, if_pos z, if_pos z]; exact ⟨rfl, rfl⟩
    · have z3 : ¬ 30 ≤ t := by omega
      simp only [if_neg z2, if_pos z, if_neg z3]; exact ⟨trivial, trivial⟩
  · have z2 : ¬ 29 ≤ t := by omega
    have z3 : ¬ 30 ≤ t := by omega
    simp only [if_neg z2, if_neg z, if_neg z3]
    have := ((hl.2 t (by omega) (by omega)).2.2.1 (hu (by omega))).2.2.2
    exact ⟨this 24 s (by omega) s0 (s1 (by omega)), this 25 s (by omega) s0 (s1 (by omega))⟩
theorem le_ln {C C' R R0 : MM} (hY : Rty C R0) (hH : Rhp C R) (hl : hpLe C C') {o : Int} (ho : hOk C o) : ln C' o = ln C o := by
  obtain ⟨a1, a2, -⟩ := ob_ty hH ho
  obtain ⟨-, b2, b3, -⟩ := hl.2 o ho
  unfold ln
  rw [b2, b3]
  exact le_so hY hl.1 a1 (fun q => (a2 q).1)
theorem ln_c {C : MM} {o s : Int} (h : s < ln C o) (q : C 27 o < 20) : s < C 16 (C 27 o) := by
  unfold ln so at h
  rw [if_neg (by omega)] at h
  exact h
theorem le_kl {C C' R R0 : MM} (hY : Rty C R0) (hH : Rhp C R) (hl : hpLe C C') {o s : Int} (ho : hOk C o) (s0 : 0 ≤ s) (s1 : s < ln C o) : kA C' (C 27 o) s = kA C (C 27 o) s ∧ lA C' (C 27 o) s = lA C (C 27 o) s := by
  obtain ⟨a1, a2, -⟩ := ob_ty hH ho
  exact le_kA hY hl.1 a1 (fun q => (a2 q).1) s0 (ln_c s1)
theorem le_mono {C C' R R0 : MM} (hY : Rty C R0) (hH : Rhp C R) (hl : hpLe C C') : ∀ v, hOk C v → hOk C' v ∧ C' 27 v = C 27 v ∧ ∀ w, ft C (C 27 v) w → ft C' (C 27 v) w := fun v hv => ⟨(hl.2 v hv).1, (hl.2 v hv).2.1, fun w hw => le_ft hY hl.1 (ob_ty hH hv).1 hw⟩
theorem le_uE {C C' R R0 : MM} (hY : Rty C R0) (hH : Rhp C R) (hl : hpLe C C') {cp cv ro rs : Int} (h : uE C cp cv ro rs) : uE C' cp cv ro rs := by
  rcases h with ⟨h1, h2, c, k, c0, c1, k0, k1, e, hv⟩ | ⟨h1, h2, h3, h4, h5⟩
  · obtain ⟨f1, f2⟩ := (hl.1.2 c c0 c1).2.2.2 k k0 k1
    refine Or.inl ⟨h1, h2, c, k, c0, by have := hl.1.1; omega, k0, f1, e, ?_⟩
    rw [e, f2 19 (by omega) (by omega), f2 20 (by omega) (by omega), ← e]
    exact fun q => vL_mono (le_mono hY hH hl) (hv q)
  · obtain ⟨b1, b2, b3, b4⟩ := hl.2 ro h1
    obtain ⟨k1, k2⟩ := le_kl hY hH hl h1 h2 h3
    refine Or.inr ⟨b1, h2, by rw [le_ln hY hH hl h1]; exact h3, by rw [b4]; exact h4, ?_⟩
    rw [b2, k1, k2]
    exact vK_mono (le_mono hY hH hl) h5
theorem le_jn {C C' R R' R0 : MM} (hY : Rty C R0) (hH : Rhp C R) (hl : hpLe C C') (hJ : Rjn C R) (c : ∀ k, 36 ≤ k → k ≤ 44 → C' k = C k) (r : ∀ k, 25 ≤ k → k ≤ 35 → R' k = R k) (r0 : ∀ i, i ∈ ([29, 36, 44] : List Int) → R' 0 i = R 0 i) : Rjn C' R' := by
  obtain ⟨j1, j2, j3, j4⟩ := hJ
  refine ⟨by rw [c 36 (by omega) (by omega), r0 29 (by decide)]; exact j1, by rw [c 36 (by omega) (by omega)]; exact j2, Rud_e j3 (fun _ _ _ _ q => le_uE hY hH hl q) (by rw [c 36 (by omega) (by omega)]) (by rw [c 36 (by omega) (by omega)]) (fun k hk => c k (by simp at hk; omega) (by simp at hk; omega)) (r0 36 (by decide)) (fun k hk => r k (by simp at hk; omega) (by simp at hk; omega)), Rwt_e j4 (by rw [c 36 (by omega) (by omega)]) (fun k hk => c k (by simp at hk; omega) (by simp at hk; omega)) hl.1.1 (fun x k x0 x1 k0 k1 => ((hl.1.2 x x0 x1).2.2.2 k k0 k1).1) (r0 44 (by decide)) (fun k hk => r k (by simp at hk; omega) (by simp at hk; omega))⟩
/-- types and fields are told: the heap stays -/
theorem Fst_of {C C' R0 : MM} (hY : Rty C R0) (hY' : C' 8 0 ≤ 16) (h14 : ∀ i, C' 14 i = C 14 i) (h32 : ∀ i, C' 32 i = C 32 i) : Fst C C' := by
  intro d k d0 d1 k0 k1
  rw [h14] at k1
  by_cases z : d < C 8 0
  · exact Or.inl ⟨z, k1, h32 _⟩
  · have := (hY.2.2.2.2.1 d (by omega) (by omega)).2.2.2.1
    omega
theorem hp_ty {C C' R R' : MM} (hY : Rty C R) (hH : Rhp C R) (hT : tyLe C C') (hF : Fst C C') (c : ∀ k i, 26 ≤ k → k ≠ 32 → C' k i = C k i) (hS : Rst C' R') (r : ∀ k, k ∈ [19, 20, 21, 22, 23, 24] → R' k = R k) (r0 : ∀ i, i ∈ ([26, 27, 28, 31] : List Int) → R' 0 i = R 0 i) : Rhp C' R' ∧ hpLe C C' := by
  have ck : ∀ k, 26 ≤ k → k ≠ 32 → C' k = C k := fun k a b => funext fun i => c k i a b
  have hok : hOk C' = hOk C := hOk_eq (c 26 1 (by omega) (by omega)) (ck 27 (by omega) (by omega))
  have hl : hpLe C C' := ⟨hT, fun o ho => ⟨by rw [hok]; exact ho, by rw [ck 27 (by omega) (by omega)], by rw [ck 28 (by omega) (by omega)], by rw [ck 29 (by omega) (by omega)]⟩⟩
  have hH0 := hH
  obtain ⟨h1, h2, h3, h4, h5, h6, h7, h8, h9, h10, h11, h12, h13, h14⟩ := hH
  have k27 := ck 27 (by omega) (by omega)
  have k26 := ck 26 (by omega) (by omega)
  have hs : ∀ n : Nat, (n : Int) ≤ C 26 1 → sm C' n = sm C n := fun n hn => sm_cong n fun o a b => ⟨by rw [k27], fun q => le_ln hY hH0 hl ⟨a, by omega, q⟩⟩
  have hc : ∀ n : Nat, ct C' n = ct C n := fun n => ct_cong n fun o a b => by rw [k27]
  refine ⟨⟨?_, ?_, ?_, ?_, ?_, ?_, ?_, ?_, ?_, ?_, ?_, ?_, hS, ?_⟩, hl⟩
  · rw [k26, r0 26 (by decide)]; exact h1
  · rw [k26]; exact h2
  · rw [k26]; exact h3
  · rw [k26, hc]; exact h4
  · rw [k26, r0 28 (by decide)]; exact h5
  · rw [k26, hs _ (by omega)]; exact h6
  · rw [k26]; exact h7
  · rw [r0 27 (by decide)]; exact h8
  · rw [k26, r0 27 (by decide)]; exact h9
  · rw [k26]
    intro o o0 o1
    obtain ⟨q1, q2⟩ := h10 o o0 o1
    unfold Rob
    rw [k27, ck 28 (by omega) (by omega), ck 29 (by omega) (by omega), ck 30 (by omega) (by omega), ck 31 (by omega) (by omega), r 19 (by decide), r 20 (by decide), r 21 (by decide), r 22 (by decide), r 23 (by decide), r0 27 (by decide)]
    refine ⟨q1, fun hne => ?_⟩
    have ho : hOk C o := ⟨o0, o1, hne⟩
    obtain ⟨a1, a2, a3, a4, a5, a6, a7, a8, a9, a10⟩ := q2 hne
    rw [le_ln hY hH0 hl ho, hs _ (by omega)]
    refine ⟨a1, vT_mono a2 hT.1, fun q => ⟨?_, (a3 q).2⟩, a4, a5, a6, a7, a8, a9, fun k k0 k1 => ?_⟩
    · unfold vT at a2
      exact ((hT.2 (C 27 o) (by have := hY.2.2.1; omega) (by have := hY.2.2.1; omega)).2.2.1 (a3 q).1).1
    · obtain ⟨b1, b2, b3⟩ := a10 k k0 k1
      obtain ⟨e1, e2⟩ := le_kl hY hH0 hl ho k0 k1
      rw [e1, e2]
      exact ⟨b1, b2, vK_mono (le_mono hY hH0 hl) b3⟩
  · intro o o' o0 oo o1 ne ne'
    rw [k26] at o1
    rw [k27] at ne ne'
    rw [le_ln hY hH0 hl ⟨o0, by omega, ne⟩, r 21 (by decide)]
    exact h11 o o' o0 oo o1 ne ne'
  · unfold Rrt at h12 ⊢; rw [k26, ck 33 (by omega) (by omega), r0 31 (by decide), r 24 (by decide), hok]; exact h12
  · intro d k d0 d1 k0 k1 k2 k5
    rcases hF d k d0 d1 k0 k1 with ⟨a, b, e⟩ | e
    · obtain ⟨f1, f2⟩ := (hT.2 d d0 a).2.2.2 k k0 b
      rw [f2 19 (by omega) (by omega)] at k5
      rw [f2 21 (by omega) (by omega)] at k2
      rw [e, f2 20 (by omega) (by omega)]
      exact vL_mono (le_mono hY hH0 hl) (h14 d k d0 a k0 b k2 k5)
    · exact Or.inl (e k5)
/-- a new thing is a step of growth -/
theorem le_crt {C R : MM} {t n : Int} (hY : Rty C R) : hpLe C (crt C t n) := by
  refine ⟨⟨by rw [crt_o C t n (by decide)]; omega, fun c c0 c1 => ⟨by rw [crt_o C t n (by decide)], by rw [crt_o C t n (by decide)], fun u => ⟨?_, by rw [crt_o C t n (by decide)], by rw [crt_o C t n (by decide)], fun k j hk _ _ => by rw [crt_o C t n (by simp; omega)]⟩, fun k k0 k1 => ⟨by rw [crt_o C t n (by decide)]; exact k1, fun q q0 q1 => by rw [crt_o C t n (by simp; omega)]⟩⟩⟩, fun o ho => ⟨⟨ho.1, ?_, ?_⟩, ?_, ?_, ?_⟩⟩
  · rw [crt_12]
    by_cases z : c = t ∧ 0 ≤ t ∧ t < C 8 0
    · rw [if_pos z]
    · rw [if_neg z]; exact u
  · have : crt C t n 26 1 = C 26 1 + 1 := by simp [crt]
    rw [this]; have := ho.2.1; omega
  · rw [crt_27, if_neg (by have := ho.2.1; omega)]; exact ho.2.2
  · rw [crt_27, if_neg (by have := ho.2.1; omega)]
  · rw [crt_28, if_neg (by have := ho.2.1; omega)]
  · rw [crt_29, if_neg (by have := ho.2.1; omega)]
theorem hpLe_r (C : MM) : hpLe C C := ⟨tyLe_of rfl (fun _ _ _ => rfl), fun o ho => ⟨ho, rfl, rfl, rfl⟩⟩
theorem hpLe_e {C C' : MM} (c : ∀ k, 8 ≤ k → k ≤ 25 → k ≠ 13 → C' k = C k) (c26 : C' 26 1 = C 26 1) (c27 : ∀ k, k ∈ [27, 28, 29] → C' k = C k) : hpLe C C' := by
  refine ⟨⟨by rw [c 8 (by omega) (by omega) (by omega)]; omega, fun d d0 d1 => ⟨by rw [c 9 (by omega) (by omega) (by omega)], by rw [c 11 (by omega) (by omega) (by omega)], fun u => ⟨by rw [c 12 (by omega) (by omega) (by omega)]; exact u, by rw [c 16 (by omega) (by omega) (by omega)], by rw [c 17 (by omega) (by omega) (by omega)], fun k j hk _ _ => by rw [c k (by omega) (by omega) (by omega)]⟩, fun k k0 k1 => ⟨by rw [c 14 (by omega) (by omega) (by omega)]; exact k1, fun q q0 q1 => by rw [c q (by omega) (by omega) (by omega)]⟩⟩⟩, fun o ho => ?_⟩
  rw [hOk_eq c26 (c27 27 (by decide)), c27 27 (by decide), c27 28 (by decide), c27 29 (by decide)]
  exact ⟨ho, rfl, rfl, rfl⟩
